/-! THE DIGEST, loop by loop -/
section DIG
variable {T : Nat → Nat → Int32} {z : Nat → Int32} {nv nc nr ne : Nat}
theorem dg_6 (h : RT T z nv nc) (w : WZ z nv nc nr ne) (sc : Int32) : ∀ j : Nat, j ≤ 14 → L_4digest_6 nv nc T sc j = L_5digest_14 nv nc z sc j
  | 0, _ => rfl
  | j + 1, hj => by
    show B_4digest_6 nv nc T sc j (L_4digest_6 nv nc T sc j) = B_5digest_14 nv nc z sc j (L_5digest_14 nv nc z sc j)
    rw [dg_6 h w sc j (by omega)]
    unfold B_4digest_6 B_5digest_14
    rw [e_total h w (show j < 14 by omega) sc]
    rfl
theorem dg_34 (h : RT T z nv nc) (w : WZ z nv nc nr ne) (sc : Int32) : ∀ j : Nat, j ≤ 4 → L_4digest_34 nv nc T sc j = L_5digest_38 nv nc z sc j
  | 0, _ => dg_6 h w sc 14 (Nat.le_refl _)
  | j + 1, hj => by
    show B_4digest_34 T j (L_4digest_34 nv nc T sc j) = B_5digest_38 z j (L_5digest_38 nv nc z sc j)
    rw [dg_34 h w sc j (by omega)]
    unfold B_4digest_34 B_5digest_38
    rw [h.num (7 + j) (by omega)]
    rfl
theorem dg_v21 (h : RT T z nv nc) (w : WZ z nv nc nr ne) {v : Nat} (hv : v < nv) (g : Int64) : ∀ j : Nat, j ≤ 12 → L_4mixVolumes_21 T v g j = L_5mixVolume_2 v z g j
  | 0, _ => rfl
  | j + 1, hj => by
    show B_4mixVolumes_21 T v j (L_4mixVolumes_21 T v g j) = B_5mixVolume_2 v z j (L_5mixVolume_2 v z g j)
    rw [dg_v21 h w hv g j (by omega)]
    unfold B_4mixVolumes_21 B_5mixVolume_2
    rw [e_volume h w hv (show j < 12 by omega)]
    rfl
theorem dg_v72 (h : RT T z nv nc) {v k : Nat} {x : Int64} (hv : v < 12) (hk : k < 40) (g : Int64) (hg : g = L_5mixVolume_27 v z x (4 * k)) : ∀ j : Nat, j ≤ 4 → L_4mixVolumes_72 T v k g j = L_5mixVolume_27 v z x (4 * k + j)
  | 0, _ => hg
  | j + 1, hj => by
    show B_4mixVolumes_72 T v k j (L_4mixVolumes_72 T v k g j) = B_5mixVolume_27 v z (4 * k + j) (L_5mixVolume_27 v z x (4 * k + j))
    rw [dg_v72 h hv hk g hg j (by omega)]
    unfold B_4mixVolumes_72 B_5mixVolume_27
    rw [e_leaf h hv hk (show j < 4 by omega), show (4 * k + j) / 4 = k by omega, show (4 * k + j) % 4 = j by omega]
    rfl
theorem dg_v54 (h : RT T z nv nc) (w : WZ z nv nc nr ne) {v : Nat} (hv : v < nv) (g : Int64) : ∀ j : Nat, j ≤ 40 → L_4mixVolumes_54 T v g j = L_5mixVolume_27 v z g (4 * j)
  | 0, _ => dg_v21 h w hv g 12 (Nat.le_refl _)
  | j + 1, hj => by
    show L_4mixVolumes_72 T v j (L_4mixVolumes_54 T v g j) 4 = _
    rw [dg_v72 (x := g) h (by have := w.nv.2; omega) (show j < 40 by omega) _ (dg_v54 h w hv g j (by omega)) 4 (Nat.le_refl _)]
    rfl
theorem dg_v5 (h : RT T z nv nc) (w : WZ z nv nc nr ne) (g : Int64) (sc : Int32) (hg : g = L_5digest_38 nv nc z sc 4) : ∀ j : Nat, j ≤ nv → L_4mixVolumes_5 g nr ne T j = L_5digest_65 nv nc nr ne z sc j
  | 0, _ => hg
  | j + 1, hj => by
    have h12 := w.nv.2
    show B_4mixVolumes_5 nr ne T j (L_4mixVolumes_5 g nr ne T j) = B_5digest_65 nr ne z j (L_5digest_65 nv nc nr ne z sc j)
    rw [dg_v5 h w g sc hg j (by omega)]
    unfold B_4mixVolumes_5 B_5digest_65 F_5mixVolume_hh
    rw [lt_eq h (by omega), dg_v54 h w (by omega) _ _ (w.lv j (by omega)).2, e_place h _ _ ne w.ne.2, h.num 3 (by omega), (e_quick h (show j < 12 by omega) nr w.nr.2).1]
    rfl
theorem dg_c21 (h : RT T z nv nc) (w : WZ z nv nc nr ne) {c : Nat} (hc : c < nc) (g : Int64) : ∀ j : Nat, j ≤ 6 → L_4mixCradles_21 c g T j = L_5digest_100 nv z c g j
  | 0, _ => rfl
  | j + 1, hj => by
    show B_4mixCradles_21 c T j (L_4mixCradles_21 c g T j) = B_5digest_100 nv z c j (L_5digest_100 nv z c g j)
    rw [dg_c21 h w hc g j (by omega)]
    unfold B_4mixCradles_21 B_5digest_100
    rw [e_cradle h w hc (show j < 6 by omega)]
    rfl
theorem dg_c5 (h : RT T z nv nc) (w : WZ z nv nc nr ne) (g : Int64) (sc : Int32) (sa : Nat → Int32) (hg : g = L_5digest_65 nv nc nr ne z sc nv) : ∀ j : Nat, j ≤ nc → (L_4mixCradles_5 g T j).1 = (L_5digest_88 nv nc nr ne z sa sc j).1 ∧ TRF T (L_4mixCradles_5 g T j).2
  | 0, _ => ⟨hg, TRF.refl T⟩
  | j + 1, hj => by
    obtain ⟨i1, i2⟩ := dg_c5 h w g sc sa hg j (by omega)
    have hr := i2.rt h w.nv.2 w.nc.2
    show (B_4mixCradles_5 j (L_4mixCradles_5 g T j).1 (L_4mixCradles_5 g T j).2).1 = (B_5digest_88 nv nc nr z j (L_5digest_88 nv nc nr ne z sa sc j).1 (L_5digest_88 nv nc nr ne z sa sc j).2).1 ∧ TRF T (B_4mixCradles_5 j (L_4mixCradles_5 g T j).1 (L_4mixCradles_5 g T j).2).2
    rw [← i1]
    unfold B_4mixCradles_5 B_5digest_88
    refine ⟨?_, i2.trans (TRF_sOn hr w (by omega) _)⟩
    dsimp only
    rw [dg_c21 hr w (by omega) _ 6 (Nat.le_refl _), e_passedOn hr w (by omega) (by omega)]
    rfl
theorem dg_r21 (h : RT T z nv nc) {r : Nat} (hr : r < 3) (g : Int64) : ∀ j : Nat, j ≤ 4 → L_4mixCarriers_21 T r g j = L_5digest_155 z r g j
  | 0, _ => rfl
  | j + 1, hj => by
    show B_4mixCarriers_21 T r j (L_4mixCarriers_21 T r g j) = B_5digest_155 z r j (L_5digest_155 z r g j)
    rw [dg_r21 h hr g j (by omega)]
    unfold B_4mixCarriers_21 B_5digest_155
    rw [h.car r j hr (by omega)]
    rfl
theorem dg_r5 (h : RT T z nv nc) (sc : Int32) (sa : Nat → Int32) (g : Int64) (hg : g = (L_5digest_88 nv nc nr ne z sa sc nc).1) : ∀ j : Nat, j ≤ 3 → L_4mixCarriers_5 g T j = L_5digest_143 nv nc nr ne z sa sc j
  | 0, _ => hg
  | j + 1, hj => by
    show L_4mixCarriers_21 T j (L_4mixCarriers_5 g T j) 4 = L_5digest_155 z j (L_5digest_143 nv nc nr ne z sa sc j) 4
    rw [dg_r5 h sc sa g hg j (by omega), dg_r21 h (by omega) _ 4 (Nat.le_refl _)]
theorem dg_e21 (h : RT T z nv nc) {e : Nat} (he : e < 60) (g : Int64) {sc : Int32} {sa : Nat → Int32} (hg : g = L_5digest_185 nv nc nr ne z sa sc (5 * e)) : ∀ j : Nat, j ≤ 5 → L_4mixEntries_21 T e g j = L_5digest_185 nv nc nr ne z sa sc (5 * e + j)
  | 0, _ => hg
  | j + 1, hj => by
    show B_4mixEntries_21 T e j (L_4mixEntries_21 T e g j) = B_5digest_185 z (5 * e + j) (L_5digest_185 nv nc nr ne z sa sc (5 * e + j))
    rw [dg_e21 h he g hg j (by omega)]
    unfold B_4mixEntries_21 B_5digest_185
    rw [h.ent e j he (by omega), Nat.add_assoc]
    rfl
theorem dg_e5 (h : RT T z nv nc) (sc : Int32) (sa : Nat → Int32) (g : Int64) (hg : g = L_5digest_143 nv nc nr ne z sa sc nr) : ∀ j : Nat, j ≤ 60 → L_4mixEntries_5 g T j = L_5digest_185 nv nc nr ne z sa sc (5 * j)
  | 0, _ => hg
  | j + 1, hj => by
    show L_4mixEntries_21 T j (L_4mixEntries_5 g T j) 5 = _
    rw [dg_e21 h (by omega) _ (dg_e5 h sc sa g hg j (by omega)) 5 (Nat.le_refl _)]
    rfl
end DIG
