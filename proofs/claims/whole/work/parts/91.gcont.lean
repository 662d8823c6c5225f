/-! THE GRAMMAR: what is still open, as a stack. -/
section MX2
variable {m0 : xM} {v : Nat → Int32} {dx : Int64} {A : Nat → Nat → Int32} {LA : Nat → Nat → Int64} {s : Nat → Int32}
section T6
variable {T : Nat → Int32} {n : Nat}
/-- the depth of a stack -/
def dpS : List Nat → Nat
  | [] => 0
  | x :: q => dpS q + (if x = 11 ∨ x = 91 then 1 else 0)
/-- what follows a FACT that stands at s, when these stand open -/
def cnt (T : Nat → Int32) (n : Nat) : List Nat → gS → gR
  | [], s => gTl T n (gFa T n 10) (n + 1) 0 s
  | [x], s => if x = 11 then cnt T n [] (gPt (11, 0) s) else if x = 12 then cnt T n [] (gPt (12, 0) s) else if x = 13 then gTl T n (gFa T n 10) (n + 1) 13 s else gBd (gTl T n (gFa T n 9) (n + 1) 0 s) (fun z => if sgE T n z.1 93 then cnt T n [] (gAd T n z) else gFl z 0)
  | x :: y :: q, s => if x = 11 then cnt T n (y :: q) (gPt (11, 0) s) else if x = 12 then cnt T n (y :: q) (gPt (12, 0) s) else if x = 13 then gBd (gTl T n (gFa T n (10 - dpS (y :: q))) (n + 1) 13 s) (fun z => if sgE T n z.1 93 then cnt T n q (gAd T n z) else gFl z 0) else gBd (gTl T n (gFa T n (9 - dpS (y :: q))) (n + 1) 0 s) (fun z => if sgE T n z.1 93 then cnt T n (y :: q) (gAd T n z) else gFl z 0)
/-- what follows a TEST -/
def aft (T : Nat → Int32) (n : Nat) (q : List Nat) (z : gS) : gR := match q with
  | [] => .inr z
  | _ :: u => if sgE T n z.1 93 then cnt T n u (gAd T n z) else gFl z 0
/-- stacks that come up -/
def wfS : List Nat → Prop
  | [] => True
  | x :: q => wfS q ∧ (x = 11 ∨ x = 91 ∨ (x = 13 ∧ (q = [] ∨ ∃ u, q = 91 :: u)) ∨ (x = 12 ∧ (q = [] ∨ ∃ u, q = 91 :: u ∨ q = 13 :: u)))
theorem cnt_11 (q : List Nat) (s : gS) : cnt T n (11 :: q) s = cnt T n q (gPt (11, 0) s) := by
  cases q with
  | nil => exact if_pos rfl
  | cons y q => exact if_pos rfl
theorem cnt_12 (q : List Nat) (s : gS) : cnt T n (12 :: q) s = cnt T n q (gPt (12, 0) s) := by
  cases q with
  | nil => exact (if_neg (by decide)).trans (if_pos rfl)
  | cons y q => exact (if_neg (by decide)).trans (if_pos rfl)
theorem gBd_i (x : gR) : gBd x (fun z => .inr z) = x := by
  cases x <;> rfl
theorem cnt_13 (q : List Nat) (s : gS) : cnt T n (13 :: q) s = gBd (gTl T n (gFa T n (10 - dpS q)) (n + 1) 13 s) (aft T n q) := by
  cases q with
  | nil =>
    rw [show aft T n ([] : List Nat) = fun z => .inr z from rfl, gBd_i]
    exact (if_neg (by decide)).trans ((if_neg (by decide)).trans (if_pos rfl))
  | cons y q => exact (if_neg (by decide)).trans ((if_neg (by decide)).trans (if_pos rfl))
theorem cnt_91 (q : List Nat) (s : gS) : cnt T n (91 :: q) s = gBd (gTl T n (gFa T n (9 - dpS q)) (n + 1) 0 s) (aft T n (91 :: q)) := by
  cases q with
  | nil => exact (if_neg (by decide)).trans ((if_neg (by decide)).trans (if_neg (by decide)))
  | cons y q => exact (if_neg (by decide)).trans ((if_neg (by decide)).trans (if_neg (by decide)))
theorem cnt_nil (s : gS) : cnt T n [] s = gBd (gTl T n (gFa T n (10 - dpS [])) (n + 1) 0 s) (aft T n []) := by
  rw [show aft T n ([] : List Nat) = fun z => .inr z from rfl, gBd_i]
  rfl
theorem gTl_f (hT : ∀ i, -128 ≤ T i ∧ T i ≤ 127) {fa : gS → gR} (hfa : ∀ s s', s.1 ≤ n → fa s = .inr s' → gB n s s') : ∀ (m f f1 wt : Nat) (s : gS), n - s.1 < m → s.1 ≤ n → n - s.1 < f → n - s.1 < f1 → gTl T n fa f wt s = gTl T n fa f1 wt s
  | 0, _, _, _, _, h, _, _, _ => absurd h (Nat.not_lt_zero _)
  | m + 1, f + 1, f1 + 1, wt, s, hm, hs, hf, hf1 => by
    have hb := gFs_b wt s
    by_cases h0 : wix T s.1 (leE T n s.1) ws5 0 = 0
    · have k0 := wx_kd hT ws5 (by decide) (fun z => by rw [h0] at z; exact absurd z (by decide))
      have hx := nx_gt hT hs k0
      rw [show gTl T n fa (f + 1) wt s = _ from if_pos h0, show gTl T n fa (f1 + 1) wt s = _ from if_pos h0]
      refine gBd_c (fun z hz => ?_)
      have b := hfa (gAd T n s) z (nx_le hs) hz
      unfold gB at b
      have q1 : (gAd T n s).1 = nxE T n s.1 := rfl
      have q4 : (gPt (12, 0) z).1 = z.1 := rfl
      exact gTl_f hT hfa m f f1 wt _ (by omega) (by omega) (by omega) (by omega)
    · by_cases h1 : wix T s.1 (leE T n s.1) ws5 0 = 1
      · have k0 := wx_kd hT ws5 (by decide) (fun z => by rw [h1] at z; exact absurd z (by decide))
        have hx := nx_gt hT hs k0
        rw [show gTl T n fa (f + 1) wt s = _ from (if_neg h0).trans (if_pos h1), show gTl T n fa (f1 + 1) wt s = _ from (if_neg h0).trans (if_pos h1)]
        refine gBd_c (fun z hz => ?_)
        have q1 : (gAd T n (gFs wt s)).1 = nxE T n s.1 := by show nxE T n (gFs wt s).1 = _; rw [hb.1]
        have b := hfa (gAd T n (gFs wt s)) z (by rw [q1]; exact nx_le hs) hz
        unfold gB at b
        exact gTl_f hT hfa m f f1 13 _ (by omega) (by omega) (by omega) (by omega)
      · rw [show gTl T n fa (f + 1) wt s = _ from (if_neg h0).trans (if_neg h1), show gTl T n fa (f1 + 1) wt s = _ from (if_neg h0).trans (if_neg h1)]
/-- the level's ground: a bracket, or nothing -/
abbrev gnd (q : List Nat) : Prop := q = [] ∨ ∃ u, q = 91 :: u
def tlv (T : Nat → Int32) (n : Nat) (q : List Nat) (wt : Nat) (s : gS) : gR := gBd (gTl T n (gFa T n (10 - dpS q)) (n + 1) wt s) (aft T n q)
theorem cnt_g {q : List Nat} (h : gnd q) (s : gS) : cnt T n q s = tlv T n q 0 s := by
  rcases h with rfl | ⟨u, rfl⟩
  · exact cnt_nil s
  · rw [cnt_91]
    unfold tlv
    rw [show 10 - dpS (91 :: u) = 9 - dpS u by show 10 - (dpS u + 1) = _; omega]
theorem cnt_o (q : List Nat) (s : gS) : cnt T n (13 :: q) s = tlv T n q 13 s := cnt_13 q s
section TL
variable {q : List Nat} {wt : Nat} {s : gS}
theorem tlv_and (hT : ∀ i, -128 ≤ T i ∧ T i ≤ 127) (hs : s.1 ≤ n) (h0 : wix T s.1 (leE T n s.1) ws5 0 = 0) : tlv T n q wt s = gBd (gFa T n (10 - dpS q) (gAd T n s)) (fun z => tlv T n q wt (gPt (12, 0) z)) := by
  have k0 := wx_kd hT ws5 (by decide) (fun z => by rw [h0] at z; exact absurd z (by decide))
  have hx := nx_gt hT hs k0
  unfold tlv
  rw [show gTl T n (gFa T n (10 - dpS q)) (n + 1) wt s = _ from if_pos h0, gBd_a]
  refine gBd_c (fun z hz => ?_)
  have b := gFa_b hT _ (gAd T n s) z (nx_le hs) hz
  unfold gB at b
  have q1 : (gAd T n s).1 = nxE T n s.1 := rfl
  have q4 : (gPt (12, 0) z).1 = z.1 := rfl
  rw [gTl_f hT (gFa_b hT (10 - dpS q)) (n + 1) n (n + 1) wt (gPt (12, 0) z) (by omega) (by omega) (by omega) (by omega)]
theorem tlv_or (hT : ∀ i, -128 ≤ T i ∧ T i ≤ 127) (hs : s.1 ≤ n) (h0 : wix T s.1 (leE T n s.1) ws5 0 = 1) : tlv T n q wt s = gBd (gFa T n (10 - dpS q) (gAd T n (gFs wt s))) (fun z => cnt T n (13 :: q) z) := by
  have k0 := wx_kd hT ws5 (by decide) (fun z => by rw [h0] at z; exact absurd z (by decide))
  have hx := nx_gt hT hs k0
  have hb := gFs_b wt s
  unfold tlv
  rw [show gTl T n (gFa T n (10 - dpS q)) (n + 1) wt s = _ from (if_neg (fun z => by rw [h0] at z; exact absurd z (by decide))).trans (if_pos h0), gBd_a]
  refine gBd_c (fun z hz => ?_)
  have q1 : (gAd T n (gFs wt s)).1 = nxE T n s.1 := by show nxE T n (gFs wt s).1 = _; rw [hb.1]
  have b := gFa_b hT _ (gAd T n (gFs wt s)) z (by rw [q1]; exact nx_le hs) hz
  unfold gB at b
  rw [gTl_f hT (gFa_b hT (10 - dpS q)) (n + 1) n (n + 1) 13 z (by omega) (by omega) (by omega) (by omega), cnt_13]
theorem tlv_end (h0 : ¬ wix T s.1 (leE T n s.1) ws5 0 = 0) (h1 : ¬ wix T s.1 (leE T n s.1) ws5 0 = 1) : tlv T n q wt s = aft T n q (gFs wt s) := by
  unfold tlv
  rw [show gTl T n (gFa T n (10 - dpS q)) (n + 1) wt s = _ from (if_neg h0).trans (if_neg h1)]
  rfl
end TL
/-- a FACT begins: not, a bracket, or a comparison -/
theorem fa_not {q : List Nat} {s : gS} (h : isN T n s.1) : gBd (gFa T n (10 - dpS q) s) (cnt T n q) = if dpS q < 10 then gBd (gFa T n (10 - dpS (11 :: q)) (gAd T n s)) (cnt T n (11 :: q)) else gFl s 2 := by
  by_cases hd : dpS q < 10
  · rw [if_pos hd]
    obtain ⟨e, he⟩ : ∃ e, 10 - dpS q = e + 1 := ⟨9 - dpS q, by omega⟩
    rw [he, show 10 - dpS (11 :: q) = e by show 10 - (dpS q + 1) = e; omega, show gFa T n (e + 1) s = _ from if_pos h, gBd_a]
    exact gBd_c (fun z _ => (cnt_11 q z).symm)
  · rw [if_neg hd, show 10 - dpS q = 0 by omega, show gFa T n 0 s = _ from if_pos h]
    rfl
theorem fa_br {q : List Nat} {s : gS} (h0 : ¬ isN T n s.1) (h : sgE T n s.1 91) : gBd (gFa T n (10 - dpS q) s) (cnt T n q) = if dpS q < 10 then gBd (gFa T n (10 - dpS (91 :: q)) (gAd T n s)) (cnt T n (91 :: q)) else gFl s 2 := by
  by_cases hd : dpS q < 10
  · rw [if_pos hd]
    obtain ⟨e, he⟩ : ∃ e, 10 - dpS q = e + 1 := ⟨9 - dpS q, by omega⟩
    rw [he, show 10 - dpS (91 :: q) = e by show 10 - (dpS q + 1) = e; omega, show gFa T n (e + 1) s = _ from (if_neg h0).trans (if_pos h)]
    unfold gTs
    rw [gBd_a, gBd_a]
    refine gBd_c (fun z _ => ?_)
    rw [cnt_91, show 9 - dpS q = e by omega]
    refine gBd_c (fun y _ => ?_)
    show gBd (if sgE T n y.1 93 then .inr (gAd T n y) else gFl y 0) (cnt T n q) = if sgE T n y.1 93 then cnt T n q (gAd T n y) else gFl y 0
    by_cases hk : sgE T n y.1 93
    · rw [if_pos hk, if_pos hk]
      rfl
    · rw [if_neg hk, if_neg hk]
      rfl
  · rw [if_neg hd, show 10 - dpS q = 0 by omega, show gFa T n 0 s = _ from (if_neg h0).trans (if_pos h)]
    rfl
theorem fa_cm {q : List Nat} {s : gS} (e : Nat) (h0 : ¬ isN T n s.1) (h : ¬ sgE T n s.1 91) : gFa T n e s = gCm T n s := by
  cases e with
  | zero => exact (if_neg h0).trans (if_neg h)
  | succ e => exact (if_neg h0).trans (if_neg h)
theorem gTs_c (s : gS) : gTs T n (gFa T n 10) s = gBd (gFa T n (10 - dpS []) s) (cnt T n []) := rfl
end T6
end MX2
