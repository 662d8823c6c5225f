/-! THE LAW: its loop. -/
section NW2
variable {N Ls : Nat} {sc : Nat → Int32} {M : xM} {Q : Option Value → xM → Prop}
theorem vpk (h7 : 7 * N + 7 ≤ Ls) (hL : Ls ≤ 3584) {c : Int32} {k : Nat} (hk : k < 7) (hc : c = nI k) : vp_in (nI (7 * N) + c) Ls := by
  subst hc
  rw [nI_add]
  exact vp_in_nI (by omega) (by omega)
/-- what a call of the law needs of the memory -/
theorem INV.ok (h : INV N sc Ls M) : okM sc Ls M ∧ (∃ fs, M.2.2 0 = some (.inr (11, fs))) ∧ M.1 ≤ 1000 ∧ M.2.1 ≤ 20000 := by
  obtain ⟨b, v, dx, A, LA, s, F, I, L, R, H, P, Bn, Fn, Wn, K, rn, n, nx, tl, rl, Hs, Gs, rfl, hs, h⟩ := h
  have hro := h.2.2.2.2.2.2.2
  have him4 := imN_le R
  have hr6 : rn ≤ 6 := h.2.2.1.2.2.1
  have h1 := hro.2.1
  have h2 := hro.2.2
  refine ⟨okM_of hs, ⟨_, rfl⟩, ?_, ?_⟩
  · show b.1 ≤ 1000
    omega
  · show b.2.1 ≤ 20000
    omega
theorem INV.nxt (h : INV N sc Ls M) : INV (N + 1) sc Ls M := by
  obtain ⟨b, v, dx, A, LA, s, F, I, L, R, H, P, Bn, Fn, Wn, K, rn, n, nx, tl, rl, Hs, Gs, e, hs, h⟩ := h
  exact ⟨b, v, dx, A, LA, s, F, I, L, R, H, P, Bn, Fn, Wn, K, rn, n, nx, tl, rl, Hs, Gs, e, hs, h.onw⟩
set_option maxRecDepth 30000 in
theorem l_case0 (hL : Ls ≤ 3584) (h7 : 7 * N + 7 ≤ Ls) (hi : INV N sc Ls M) (kk : ∀ m2, INV (N + 1) sc Ls m2 → Rn 60 j_L_law 1042 [.ref (xS + 60), .ref 0, .ref 50, .int (nI (7 * N))] [] m2 Q) : Rn 60 j_L_law 160 [.ref (xS + 60), .ref 0, .ref 50, .int (nI (7 * N))] [] M Q := by
  obtain ⟨⟨_, hs⟩, ⟨fs, hO⟩, _⟩ := hi.ok
  have hN : N ≤ 550 := by omega
  refine Rn.step (pc' := 161) rfl rfl ?_
  refine Rn.step (pc' := 162) rfl rfl ?_
  refine Rn.step (pc' := 163) rfl rfl ?_
  refine Rn.iconst (v := 1) (pc' := 164) rfl (by decide) rfl ?_
  refine Rn.iadd (pc' := 165) rfl rfl ?_
  refine Rn.iald (pc' := 166) rfl hs (vpk h7 hL (k := 1) (by omega) rfl) rfl ?_
  refine Rn.step (pc' := 167) rfl rfl ?_
  refine Rn.step (pc' := 168) rfl rfl ?_
  refine Rn.iconst (v := 2) (pc' := 169) rfl (by decide) rfl ?_
  refine Rn.iadd (pc' := 170) rfl rfl ?_
  refine Rn.iald (pc' := 171) rfl hs (vpk h7 hL (k := 2) (by omega) rfl) rfl ?_
  refine Rn.step (pc' := 172) rfl rfl ?_
  refine Rn.step (pc' := 173) rfl rfl ?_
  refine Rn.iconst (v := 3) (pc' := 174) rfl (by decide) rfl ?_
  refine Rn.iadd (pc' := 175) rfl rfl ?_
  refine Rn.iald (pc' := 176) rfl hs (vpk h7 hL (k := 3) (by omega) rfl) rfl ?_
  refine Rn.step (pc' := 177) rfl rfl ?_
  refine Rn.step (pc' := 178) rfl rfl ?_
  refine Rn.iconst (v := 4) (pc' := 179) rfl (by decide) rfl ?_
  refine Rn.iadd (pc' := 180) rfl rfl ?_
  refine Rn.iald (pc' := 181) rfl hs (vpk h7 hL (k := 4) (by omega) rfl) rfl ?_
  refine Rn.step (pc' := 182) rfl rfl ?_
  refine Rn.step (pc' := 183) rfl rfl ?_
  refine Rn.iconst (v := 5) (pc' := 184) rfl (by decide) rfl ?_
  refine Rn.iadd (pc' := 185) rfl rfl ?_
  refine Rn.iald (pc' := 186) rfl hs (vpk h7 hL (k := 5) (by omega) rfl) rfl ?_
  refine Rn.callV (pc' := 189) rfl (by decide) (by omega) rfl (rcvA hO rfl) rfl (b_feed hi hN (sc (nI (7 * N) + 1).toNatClampNeg) (sc (nI (7 * N) + 2).toNatClampNeg) (sc (nI (7 * N) + 3).toNatClampNeg) (sc (nI (7 * N) + 4).toNatClampNeg) (sc (nI (7 * N) + 5).toNatClampNeg)) (fun r_ m_ hc_ => ?_)
  obtain ⟨y, rfl, ⟨⟨fs2, hm50⟩, hs2⟩, hc2⟩ := hc_
  refine Rn.step (pc' := 190) rfl rfl ?_
  refine Rn.step (pc' := 191) rfl rfl ?_
  refine Rn.step (pc' := 192) rfl rfl ?_
  refine Rn.iconst (v := 1) (pc' := 193) rfl (by decide) rfl ?_
  refine Rn.iadd (pc' := 194) rfl rfl ?_
  refine Rn.iald (pc' := 195) rfl hs2 (vpk h7 hL (k := 1) (by omega) rfl) rfl ?_
  refine Rn.step (pc' := 196) rfl rfl ?_
  refine Rn.step (pc' := 197) rfl rfl ?_
  refine Rn.iconst (v := 2) (pc' := 198) rfl (by decide) rfl ?_
  refine Rn.iadd (pc' := 199) rfl rfl ?_
  refine Rn.iald (pc' := 200) rfl hs2 (vpk h7 hL (k := 2) (by omega) rfl) rfl ?_
  refine Rn.step (pc' := 201) rfl rfl ?_
  refine Rn.step (pc' := 202) rfl rfl ?_
  refine Rn.iconst (v := 3) (pc' := 203) rfl (by decide) rfl ?_
  refine Rn.iadd (pc' := 204) rfl rfl ?_
  refine Rn.iald (pc' := 205) rfl hs2 (vpk h7 hL (k := 3) (by omega) rfl) rfl ?_
  refine Rn.step (pc' := 206) rfl rfl ?_
  refine Rn.step (pc' := 207) rfl rfl ?_
  refine Rn.iconst (v := 4) (pc' := 208) rfl (by decide) rfl ?_
  refine Rn.iadd (pc' := 209) rfl rfl ?_
  refine Rn.iald (pc' := 210) rfl hs2 (vpk h7 hL (k := 4) (by omega) rfl) rfl ?_
  refine Rn.step (pc' := 211) rfl rfl ?_
  refine Rn.step (pc' := 212) rfl rfl ?_
  refine Rn.iconst (v := 5) (pc' := 213) rfl (by decide) rfl ?_
  refine Rn.iadd (pc' := 214) rfl rfl ?_
  refine Rn.iald (pc' := 215) rfl hs2 (vpk h7 hL (k := 5) (by omega) rfl) rfl ?_
  refine Rn.callV (pc' := 218) rfl (by decide) (by omega) rfl (rcvA hm50 rfl) rfl hc2 (fun r_ m_ hc_ => ?_)
  obtain ⟨rfl, hinv⟩ := hc_
  exact Rn.icmp_eq (pc1 := 1042) (pc2 := 221) rfl rfl rfl (fun _ => kk _ hinv) (fun hne => absurd rfl hne)
set_option maxRecDepth 30000 in
theorem l_case1 (hL : Ls ≤ 3584) (h7 : 7 * N + 7 ≤ Ls) (hi : INV N sc Ls M) (kk : ∀ m2, INV (N + 1) sc Ls m2 → Rn 60 j_L_law 1042 [.ref (xS + 60), .ref 0, .ref 50, .int (nI (7 * N))] [] m2 Q) : Rn 60 j_L_law 223 [.ref (xS + 60), .ref 0, .ref 50, .int (nI (7 * N))] [] M Q := by
  obtain ⟨⟨_, hs⟩, ⟨fs, hO⟩, _⟩ := hi.ok
  have hN : N ≤ 550 := by omega
  refine Rn.step (pc' := 224) rfl rfl ?_
  refine Rn.step (pc' := 225) rfl rfl ?_
  refine Rn.step (pc' := 226) rfl rfl ?_
  refine Rn.iconst (v := 1) (pc' := 227) rfl (by decide) rfl ?_
  refine Rn.iadd (pc' := 228) rfl rfl ?_
  refine Rn.iald (pc' := 229) rfl hs (vpk h7 hL (k := 1) (by omega) rfl) rfl ?_
  refine Rn.callV (pc' := 232) rfl (by decide) (by omega) rfl (rcvA hO rfl) rfl (b_end hi hN (sc (nI (7 * N) + 1).toNatClampNeg)) (fun r_ m_ hc_ => ?_)
  obtain ⟨y, rfl, ⟨⟨fs2, hm50⟩, hs2⟩, hc2⟩ := hc_
  refine Rn.step (pc' := 233) rfl rfl ?_
  refine Rn.step (pc' := 234) rfl rfl ?_
  refine Rn.step (pc' := 235) rfl rfl ?_
  refine Rn.iconst (v := 1) (pc' := 236) rfl (by decide) rfl ?_
  refine Rn.iadd (pc' := 237) rfl rfl ?_
  refine Rn.iald (pc' := 238) rfl hs2 (vpk h7 hL (k := 1) (by omega) rfl) rfl ?_
  refine Rn.callV (pc' := 241) rfl (by decide) (by omega) rfl (rcvA hm50 rfl) rfl hc2 (fun r_ m_ hc_ => ?_)
  obtain ⟨rfl, hinv⟩ := hc_
  exact Rn.icmp_eq (pc1 := 1042) (pc2 := 244) rfl rfl rfl (fun _ => kk _ hinv) (fun hne => absurd rfl hne)
set_option maxRecDepth 30000 in
theorem l_case2 (hL : Ls ≤ 3584) (h7 : 7 * N + 7 ≤ Ls) (hi : INV N sc Ls M) (kk : ∀ m2, INV (N + 1) sc Ls m2 → Rn 60 j_L_law 1042 [.ref (xS + 60), .ref 0, .ref 50, .int (nI (7 * N))] [] m2 Q) : Rn 60 j_L_law 246 [.ref (xS + 60), .ref 0, .ref 50, .int (nI (7 * N))] [] M Q := by
  obtain ⟨⟨_, hs⟩, ⟨fs, hO⟩, _⟩ := hi.ok
  have hN : N ≤ 550 := by omega
  refine Rn.step (pc' := 247) rfl rfl ?_
  refine Rn.callV (pc' := 250) rfl (by decide) (by omega) rfl (rcvA hO rfl) rfl (b_lane hi hN ) (fun r_ m_ hc_ => ?_)
  obtain ⟨y, rfl, ⟨⟨fs2, hm50⟩, hs2⟩, hc2⟩ := hc_
  refine Rn.step (pc' := 251) rfl rfl ?_
  refine Rn.callV (pc' := 254) rfl (by decide) (by omega) rfl (rcvA hm50 rfl) rfl hc2 (fun r_ m_ hc_ => ?_)
  obtain ⟨rfl, hinv⟩ := hc_
  exact Rn.icmp_eq (pc1 := 1042) (pc2 := 257) rfl rfl rfl (fun _ => kk _ hinv) (fun hne => absurd rfl hne)
set_option maxRecDepth 30000 in
theorem l_case3 (hL : Ls ≤ 3584) (h7 : 7 * N + 7 ≤ Ls) (hi : INV N sc Ls M) (kk : ∀ m2, INV (N + 1) sc Ls m2 → Rn 60 j_L_law 1042 [.ref (xS + 60), .ref 0, .ref 50, .int (nI (7 * N))] [] m2 Q) : Rn 60 j_L_law 259 [.ref (xS + 60), .ref 0, .ref 50, .int (nI (7 * N))] [] M Q := by
  obtain ⟨⟨_, hs⟩, ⟨fs, hO⟩, _⟩ := hi.ok
  have hN : N ≤ 550 := by omega
  refine Rn.step (pc' := 260) rfl rfl ?_
  refine Rn.callV (pc' := 263) rfl (by decide) (by omega) rfl (rcvA hO rfl) rfl (b_rule hi hN ) (fun r_ m_ hc_ => ?_)
  obtain ⟨y, rfl, ⟨⟨fs2, hm50⟩, hs2⟩, hc2⟩ := hc_
  refine Rn.step (pc' := 264) rfl rfl ?_
  refine Rn.callV (pc' := 267) rfl (by decide) (by omega) rfl (rcvA hm50 rfl) rfl hc2 (fun r_ m_ hc_ => ?_)
  obtain ⟨rfl, hinv⟩ := hc_
  exact Rn.icmp_eq (pc1 := 1042) (pc2 := 270) rfl rfl rfl (fun _ => kk _ hinv) (fun hne => absurd rfl hne)
set_option maxRecDepth 30000 in
theorem l_case4 (hL : Ls ≤ 3584) (h7 : 7 * N + 7 ≤ Ls) (hi : INV N sc Ls M) (kk : ∀ m2, INV (N + 1) sc Ls m2 → Rn 60 j_L_law 1042 [.ref (xS + 60), .ref 0, .ref 50, .int (nI (7 * N))] [] m2 Q) : Rn 60 j_L_law 272 [.ref (xS + 60), .ref 0, .ref 50, .int (nI (7 * N))] [] M Q := by
  obtain ⟨⟨_, hs⟩, ⟨fs, hO⟩, _⟩ := hi.ok
  have hN : N ≤ 550 := by omega
  refine Rn.step (pc' := 273) rfl rfl ?_
  refine Rn.step (pc' := 274) rfl rfl ?_
  refine Rn.step (pc' := 275) rfl rfl ?_
  refine Rn.iconst (v := 1) (pc' := 276) rfl (by decide) rfl ?_
  refine Rn.iadd (pc' := 277) rfl rfl ?_
  refine Rn.iald (pc' := 278) rfl hs (vpk h7 hL (k := 1) (by omega) rfl) rfl ?_
  refine Rn.callV (pc' := 281) rfl (by decide) (by omega) rfl (rcvA hO rfl) rfl (b_force hi hN (sc (nI (7 * N) + 1).toNatClampNeg)) (fun r_ m_ hc_ => ?_)
  obtain ⟨y, rfl, ⟨⟨fs2, hm50⟩, hs2⟩, hc2⟩ := hc_
  refine Rn.step (pc' := 282) rfl rfl ?_
  refine Rn.step (pc' := 283) rfl rfl ?_
  refine Rn.step (pc' := 284) rfl rfl ?_
  refine Rn.iconst (v := 1) (pc' := 285) rfl (by decide) rfl ?_
  refine Rn.iadd (pc' := 286) rfl rfl ?_
  refine Rn.iald (pc' := 287) rfl hs2 (vpk h7 hL (k := 1) (by omega) rfl) rfl ?_
  refine Rn.callV (pc' := 290) rfl (by decide) (by omega) rfl (rcvA hm50 rfl) rfl hc2 (fun r_ m_ hc_ => ?_)
  obtain ⟨rfl, hinv⟩ := hc_
  exact Rn.icmp_eq (pc1 := 1042) (pc2 := 293) rfl rfl rfl (fun _ => kk _ hinv) (fun hne => absurd rfl hne)
set_option maxRecDepth 30000 in
theorem l_case5 (hL : Ls ≤ 3584) (h7 : 7 * N + 7 ≤ Ls) (hi : INV N sc Ls M) (kk : ∀ m2, INV (N + 1) sc Ls m2 → Rn 60 j_L_law 1042 [.ref (xS + 60), .ref 0, .ref 50, .int (nI (7 * N))] [] m2 Q) : Rn 60 j_L_law 295 [.ref (xS + 60), .ref 0, .ref 50, .int (nI (7 * N))] [] M Q := by
  obtain ⟨⟨_, hs⟩, ⟨fs, hO⟩, _⟩ := hi.ok
  have hN : N ≤ 550 := by omega
  refine Rn.step (pc' := 296) rfl rfl ?_
  refine Rn.step (pc' := 297) rfl rfl ?_
  refine Rn.step (pc' := 298) rfl rfl ?_
  refine Rn.iconst (v := 1) (pc' := 299) rfl (by decide) rfl ?_
  refine Rn.iadd (pc' := 300) rfl rfl ?_
  refine Rn.iald (pc' := 301) rfl hs (vpk h7 hL (k := 1) (by omega) rfl) rfl ?_
  refine Rn.step (pc' := 302) rfl rfl ?_
  refine Rn.step (pc' := 303) rfl rfl ?_
  refine Rn.iconst (v := 2) (pc' := 304) rfl (by decide) rfl ?_
  refine Rn.iadd (pc' := 305) rfl rfl ?_
  refine Rn.iald (pc' := 306) rfl hs (vpk h7 hL (k := 2) (by omega) rfl) rfl ?_
  refine Rn.callV (pc' := 309) rfl (by decide) (by omega) rfl (rcvA hO rfl) rfl (b_brother hi hN (sc (nI (7 * N) + 1).toNatClampNeg) (sc (nI (7 * N) + 2).toNatClampNeg)) (fun r_ m_ hc_ => ?_)
  obtain ⟨y, rfl, ⟨⟨fs2, hm50⟩, hs2⟩, hc2⟩ := hc_
  refine Rn.step (pc' := 310) rfl rfl ?_
  refine Rn.step (pc' := 311) rfl rfl ?_
  refine Rn.step (pc' := 312) rfl rfl ?_
  refine Rn.iconst (v := 1) (pc' := 313) rfl (by decide) rfl ?_
  refine Rn.iadd (pc' := 314) rfl rfl ?_
  refine Rn.iald (pc' := 315) rfl hs2 (vpk h7 hL (k := 1) (by omega) rfl) rfl ?_
  refine Rn.step (pc' := 316) rfl rfl ?_
  refine Rn.step (pc' := 317) rfl rfl ?_
  refine Rn.iconst (v := 2) (pc' := 318) rfl (by decide) rfl ?_
  refine Rn.iadd (pc' := 319) rfl rfl ?_
  refine Rn.iald (pc' := 320) rfl hs2 (vpk h7 hL (k := 2) (by omega) rfl) rfl ?_
  refine Rn.callV (pc' := 323) rfl (by decide) (by omega) rfl (rcvA hm50 rfl) rfl hc2 (fun r_ m_ hc_ => ?_)
  obtain ⟨rfl, hinv⟩ := hc_
  exact Rn.icmp_eq (pc1 := 1042) (pc2 := 326) rfl rfl rfl (fun _ => kk _ hinv) (fun hne => absurd rfl hne)
set_option maxRecDepth 30000 in
theorem l_case6 (hL : Ls ≤ 3584) (h7 : 7 * N + 7 ≤ Ls) (hi : INV N sc Ls M) (kk : ∀ m2, INV (N + 1) sc Ls m2 → Rn 60 j_L_law 1042 [.ref (xS + 60), .ref 0, .ref 50, .int (nI (7 * N))] [] m2 Q) : Rn 60 j_L_law 328 [.ref (xS + 60), .ref 0, .ref 50, .int (nI (7 * N))] [] M Q := by
  obtain ⟨⟨_, hs⟩, ⟨fs, hO⟩, _⟩ := hi.ok
  have hN : N ≤ 550 := by omega
  refine Rn.step (pc' := 329) rfl rfl ?_
  refine Rn.step (pc' := 330) rfl rfl ?_
  refine Rn.step (pc' := 331) rfl rfl ?_
  refine Rn.iconst (v := 1) (pc' := 332) rfl (by decide) rfl ?_
  refine Rn.iadd (pc' := 333) rfl rfl ?_
  refine Rn.iald (pc' := 334) rfl hs (vpk h7 hL (k := 1) (by omega) rfl) rfl ?_
  refine Rn.step (pc' := 335) rfl rfl ?_
  refine Rn.step (pc' := 336) rfl rfl ?_
  refine Rn.iconst (v := 2) (pc' := 337) rfl (by decide) rfl ?_
  refine Rn.iadd (pc' := 338) rfl rfl ?_
  refine Rn.iald (pc' := 339) rfl hs (vpk h7 hL (k := 2) (by omega) rfl) rfl ?_
  refine Rn.callV (pc' := 342) rfl (by decide) (by omega) rfl (rcvA hO rfl) rfl (b_boot hi hN (sc (nI (7 * N) + 1).toNatClampNeg) (sc (nI (7 * N) + 2).toNatClampNeg)) (fun r_ m_ hc_ => ?_)
  obtain ⟨y, rfl, ⟨⟨fs2, hm50⟩, hs2⟩, hc2⟩ := hc_
  refine Rn.step (pc' := 343) rfl rfl ?_
  refine Rn.step (pc' := 344) rfl rfl ?_
  refine Rn.step (pc' := 345) rfl rfl ?_
  refine Rn.iconst (v := 1) (pc' := 346) rfl (by decide) rfl ?_
  refine Rn.iadd (pc' := 347) rfl rfl ?_
  refine Rn.iald (pc' := 348) rfl hs2 (vpk h7 hL (k := 1) (by omega) rfl) rfl ?_
  refine Rn.step (pc' := 349) rfl rfl ?_
  refine Rn.step (pc' := 350) rfl rfl ?_
  refine Rn.iconst (v := 2) (pc' := 351) rfl (by decide) rfl ?_
  refine Rn.iadd (pc' := 352) rfl rfl ?_
  refine Rn.iald (pc' := 353) rfl hs2 (vpk h7 hL (k := 2) (by omega) rfl) rfl ?_
  refine Rn.callV (pc' := 356) rfl (by decide) (by omega) rfl (rcvA hm50 rfl) rfl hc2 (fun r_ m_ hc_ => ?_)
  obtain ⟨rfl, hinv⟩ := hc_
  exact Rn.icmp_eq (pc1 := 1042) (pc2 := 359) rfl rfl rfl (fun _ => kk _ hinv) (fun hne => absurd rfl hne)
set_option maxRecDepth 30000 in
theorem l_case7 (hL : Ls ≤ 3584) (h7 : 7 * N + 7 ≤ Ls) (hi : INV N sc Ls M) (kk : ∀ m2, INV (N + 1) sc Ls m2 → Rn 60 j_L_law 1042 [.ref (xS + 60), .ref 0, .ref 50, .int (nI (7 * N))] [] m2 Q) : Rn 60 j_L_law 361 [.ref (xS + 60), .ref 0, .ref 50, .int (nI (7 * N))] [] M Q := by
  obtain ⟨⟨_, hs⟩, ⟨fs, hO⟩, _⟩ := hi.ok
  have hN : N ≤ 550 := by omega
  refine Rn.step (pc' := 362) rfl rfl ?_
  refine Rn.step (pc' := 363) rfl rfl ?_
  refine Rn.step (pc' := 364) rfl rfl ?_
  refine Rn.iconst (v := 1) (pc' := 365) rfl (by decide) rfl ?_
  refine Rn.iadd (pc' := 366) rfl rfl ?_
  refine Rn.iald (pc' := 367) rfl hs (vpk h7 hL (k := 1) (by omega) rfl) rfl ?_
  refine Rn.callV (pc' := 370) rfl (by decide) (by omega) rfl (rcvA hO rfl) rfl (b_wet hi hN (sc (nI (7 * N) + 1).toNatClampNeg)) (fun r_ m_ hc_ => ?_)
  obtain ⟨y, rfl, ⟨⟨fs2, hm50⟩, hs2⟩, hc2⟩ := hc_
  refine Rn.step (pc' := 371) rfl rfl ?_
  refine Rn.step (pc' := 372) rfl rfl ?_
  refine Rn.step (pc' := 373) rfl rfl ?_
  refine Rn.iconst (v := 1) (pc' := 374) rfl (by decide) rfl ?_
  refine Rn.iadd (pc' := 375) rfl rfl ?_
  refine Rn.iald (pc' := 376) rfl hs2 (vpk h7 hL (k := 1) (by omega) rfl) rfl ?_
  refine Rn.callV (pc' := 379) rfl (by decide) (by omega) rfl (rcvA hm50 rfl) rfl hc2 (fun r_ m_ hc_ => ?_)
  obtain ⟨rfl, hinv⟩ := hc_
  exact Rn.icmp_eq (pc1 := 1042) (pc2 := 382) rfl rfl rfl (fun _ => kk _ hinv) (fun hne => absurd rfl hne)
set_option maxRecDepth 30000 in
theorem l_case8 (hL : Ls ≤ 3584) (h7 : 7 * N + 7 ≤ Ls) (hi : INV N sc Ls M) (kk : ∀ m2, INV (N + 1) sc Ls m2 → Rn 60 j_L_law 1042 [.ref (xS + 60), .ref 0, .ref 50, .int (nI (7 * N))] [] m2 Q) : Rn 60 j_L_law 384 [.ref (xS + 60), .ref 0, .ref 50, .int (nI (7 * N))] [] M Q := by
  obtain ⟨⟨_, hs⟩, ⟨fs, hO⟩, _⟩ := hi.ok
  have hN : N ≤ 550 := by omega
  refine Rn.step (pc' := 385) rfl rfl ?_
  refine Rn.callV (pc' := 388) rfl (by decide) (by omega) rfl (rcvA hO rfl) rfl (b_hour hi hN ) (fun r_ m_ hc_ => ?_)
  obtain ⟨y, rfl, ⟨⟨fs2, hm50⟩, hs2⟩, hc2⟩ := hc_
  refine Rn.step (pc' := 389) rfl rfl ?_
  refine Rn.callV (pc' := 392) rfl (by decide) (by omega) rfl (rcvA hm50 rfl) rfl hc2 (fun r_ m_ hc_ => ?_)
  obtain ⟨rfl, hinv⟩ := hc_
  exact Rn.icmp_eq (pc1 := 1042) (pc2 := 395) rfl rfl rfl (fun _ => kk _ hinv) (fun hne => absurd rfl hne)
set_option maxRecDepth 30000 in
theorem l_case9 (hL : Ls ≤ 3584) (h7 : 7 * N + 7 ≤ Ls) (hi : INV N sc Ls M) (kk : ∀ m2, INV (N + 1) sc Ls m2 → Rn 60 j_L_law 1042 [.ref (xS + 60), .ref 0, .ref 50, .int (nI (7 * N))] [] m2 Q) : Rn 60 j_L_law 397 [.ref (xS + 60), .ref 0, .ref 50, .int (nI (7 * N))] [] M Q := by
  obtain ⟨⟨_, hs⟩, ⟨fs, hO⟩, _⟩ := hi.ok
  have hN : N ≤ 550 := by omega
  refine Rn.step (pc' := 398) rfl rfl ?_
  refine Rn.step (pc' := 399) rfl rfl ?_
  refine Rn.step (pc' := 400) rfl rfl ?_
  refine Rn.iconst (v := 1) (pc' := 401) rfl (by decide) rfl ?_
  refine Rn.iadd (pc' := 402) rfl rfl ?_
  refine Rn.iald (pc' := 403) rfl hs (vpk h7 hL (k := 1) (by omega) rfl) rfl ?_
  refine Rn.step (pc' := 404) rfl rfl ?_
  refine Rn.step (pc' := 405) rfl rfl ?_
  refine Rn.iconst (v := 2) (pc' := 406) rfl (by decide) rfl ?_
  refine Rn.iadd (pc' := 407) rfl rfl ?_
  refine Rn.iald (pc' := 408) rfl hs (vpk h7 hL (k := 2) (by omega) rfl) rfl ?_
  refine Rn.callV (pc' := 411) rfl (by decide) (by omega) rfl (rcvA hO rfl) rfl (b_wear hi hN (sc (nI (7 * N) + 1).toNatClampNeg) (sc (nI (7 * N) + 2).toNatClampNeg)) (fun r_ m_ hc_ => ?_)
  obtain ⟨y, rfl, ⟨⟨fs2, hm50⟩, hs2⟩, hc2⟩ := hc_
  refine Rn.step (pc' := 412) rfl rfl ?_
  refine Rn.step (pc' := 413) rfl rfl ?_
  refine Rn.step (pc' := 414) rfl rfl ?_
  refine Rn.iconst (v := 1) (pc' := 415) rfl (by decide) rfl ?_
  refine Rn.iadd (pc' := 416) rfl rfl ?_
  refine Rn.iald (pc' := 417) rfl hs2 (vpk h7 hL (k := 1) (by omega) rfl) rfl ?_
  refine Rn.step (pc' := 418) rfl rfl ?_
  refine Rn.step (pc' := 419) rfl rfl ?_
  refine Rn.iconst (v := 2) (pc' := 420) rfl (by decide) rfl ?_
  refine Rn.iadd (pc' := 421) rfl rfl ?_
  refine Rn.iald (pc' := 422) rfl hs2 (vpk h7 hL (k := 2) (by omega) rfl) rfl ?_
  refine Rn.callV (pc' := 425) rfl (by decide) (by omega) rfl (rcvA hm50 rfl) rfl hc2 (fun r_ m_ hc_ => ?_)
  obtain ⟨rfl, hinv⟩ := hc_
  exact Rn.icmp_eq (pc1 := 1042) (pc2 := 428) rfl rfl rfl (fun _ => kk _ hinv) (fun hne => absurd rfl hne)
set_option maxRecDepth 30000 in
theorem l_case10 (hL : Ls ≤ 3584) (h7 : 7 * N + 7 ≤ Ls) (hi : INV N sc Ls M) (kk : ∀ m2, INV (N + 1) sc Ls m2 → Rn 60 j_L_law 1042 [.ref (xS + 60), .ref 0, .ref 50, .int (nI (7 * N))] [] m2 Q) : Rn 60 j_L_law 430 [.ref (xS + 60), .ref 0, .ref 50, .int (nI (7 * N))] [] M Q := by
  obtain ⟨⟨_, hs⟩, ⟨fs, hO⟩, _⟩ := hi.ok
  have hN : N ≤ 550 := by omega
  refine Rn.step (pc' := 431) rfl rfl ?_
  refine Rn.step (pc' := 432) rfl rfl ?_
  refine Rn.step (pc' := 433) rfl rfl ?_
  refine Rn.iconst (v := 1) (pc' := 434) rfl (by decide) rfl ?_
  refine Rn.iadd (pc' := 435) rfl rfl ?_
  refine Rn.iald (pc' := 436) rfl hs (vpk h7 hL (k := 1) (by omega) rfl) rfl ?_
  refine Rn.callV (pc' := 439) rfl (by decide) (by omega) rfl (rcvA hO rfl) rfl (b_off hi hN (sc (nI (7 * N) + 1).toNatClampNeg)) (fun r_ m_ hc_ => ?_)
  obtain ⟨y, rfl, ⟨⟨fs2, hm50⟩, hs2⟩, hc2⟩ := hc_
  refine Rn.step (pc' := 440) rfl rfl ?_
  refine Rn.step (pc' := 441) rfl rfl ?_
  refine Rn.step (pc' := 442) rfl rfl ?_
  refine Rn.iconst (v := 1) (pc' := 443) rfl (by decide) rfl ?_
  refine Rn.iadd (pc' := 444) rfl rfl ?_
  refine Rn.iald (pc' := 445) rfl hs2 (vpk h7 hL (k := 1) (by omega) rfl) rfl ?_
  refine Rn.callV (pc' := 448) rfl (by decide) (by omega) rfl (rcvA hm50 rfl) rfl hc2 (fun r_ m_ hc_ => ?_)
  obtain ⟨rfl, hinv⟩ := hc_
  exact Rn.icmp_eq (pc1 := 1042) (pc2 := 451) rfl rfl rfl (fun _ => kk _ hinv) (fun hne => absurd rfl hne)
set_option maxRecDepth 30000 in
theorem l_case11 (hL : Ls ≤ 3584) (h7 : 7 * N + 7 ≤ Ls) (hi : INV N sc Ls M) (kk : ∀ m2, INV (N + 1) sc Ls m2 → Rn 60 j_L_law 1042 [.ref (xS + 60), .ref 0, .ref 50, .int (nI (7 * N))] [] m2 Q) : Rn 60 j_L_law 453 [.ref (xS + 60), .ref 0, .ref 50, .int (nI (7 * N))] [] M Q := by
  obtain ⟨⟨_, hs⟩, ⟨fs, hO⟩, _⟩ := hi.ok
  have hN : N ≤ 550 := by omega
  refine Rn.step (pc' := 454) rfl rfl ?_
  refine Rn.step (pc' := 455) rfl rfl ?_
  refine Rn.step (pc' := 456) rfl rfl ?_
  refine Rn.iconst (v := 1) (pc' := 457) rfl (by decide) rfl ?_
  refine Rn.iadd (pc' := 458) rfl rfl ?_
  refine Rn.iald (pc' := 459) rfl hs (vpk h7 hL (k := 1) (by omega) rfl) rfl ?_
  refine Rn.callV (pc' := 462) rfl (by decide) (by omega) rfl (rcvA hO rfl) rfl (b_cobble hi hN (sc (nI (7 * N) + 1).toNatClampNeg)) (fun r_ m_ hc_ => ?_)
  obtain ⟨y, rfl, ⟨⟨fs2, hm50⟩, hs2⟩, hc2⟩ := hc_
  refine Rn.step (pc' := 463) rfl rfl ?_
  refine Rn.step (pc' := 464) rfl rfl ?_
  refine Rn.step (pc' := 465) rfl rfl ?_
  refine Rn.iconst (v := 1) (pc' := 466) rfl (by decide) rfl ?_
  refine Rn.iadd (pc' := 467) rfl rfl ?_
  refine Rn.iald (pc' := 468) rfl hs2 (vpk h7 hL (k := 1) (by omega) rfl) rfl ?_
  refine Rn.callV (pc' := 471) rfl (by decide) (by omega) rfl (rcvA hm50 rfl) rfl hc2 (fun r_ m_ hc_ => ?_)
  obtain ⟨rfl, hinv⟩ := hc_
  exact Rn.icmp_eq (pc1 := 1042) (pc2 := 474) rfl rfl rfl (fun _ => kk _ hinv) (fun hne => absurd rfl hne)
set_option maxRecDepth 30000 in
theorem l_case12 (hL : Ls ≤ 3584) (h7 : 7 * N + 7 ≤ Ls) (hi : INV N sc Ls M) (kk : ∀ m2, INV (N + 1) sc Ls m2 → Rn 60 j_L_law 1042 [.ref (xS + 60), .ref 0, .ref 50, .int (nI (7 * N))] [] m2 Q) : Rn 60 j_L_law 476 [.ref (xS + 60), .ref 0, .ref 50, .int (nI (7 * N))] [] M Q := by
  obtain ⟨⟨_, hs⟩, ⟨fs, hO⟩, _⟩ := hi.ok
  have hN : N ≤ 550 := by omega
  refine Rn.step (pc' := 477) rfl rfl ?_
  refine Rn.callV (pc' := 480) rfl (by decide) (by omega) rfl (rcvA hO rfl) rfl (b_undo hi hN ) (fun r_ m_ hc_ => ?_)
  obtain ⟨y, rfl, ⟨⟨fs2, hm50⟩, hs2⟩, hc2⟩ := hc_
  refine Rn.step (pc' := 481) rfl rfl ?_
  refine Rn.callV (pc' := 484) rfl (by decide) (by omega) rfl (rcvA hm50 rfl) rfl hc2 (fun r_ m_ hc_ => ?_)
  obtain ⟨rfl, hinv⟩ := hc_
  exact Rn.icmp_eq (pc1 := 1042) (pc2 := 487) rfl rfl rfl (fun _ => kk _ hinv) (fun hne => absurd rfl hne)
set_option maxRecDepth 30000 in
theorem l_case13 (hL : Ls ≤ 3584) (h7 : 7 * N + 7 ≤ Ls) (hi : INV N sc Ls M) (kk : ∀ m2, INV (N + 1) sc Ls m2 → Rn 60 j_L_law 1042 [.ref (xS + 60), .ref 0, .ref 50, .int (nI (7 * N))] [] m2 Q) : Rn 60 j_L_law 489 [.ref (xS + 60), .ref 0, .ref 50, .int (nI (7 * N))] [] M Q := by
  obtain ⟨⟨_, hs⟩, ⟨fs, hO⟩, _⟩ := hi.ok
  have hN : N ≤ 550 := by omega
  refine Rn.step (pc' := 490) rfl rfl ?_
  refine Rn.step (pc' := 491) rfl rfl ?_
  refine Rn.step (pc' := 492) rfl rfl ?_
  refine Rn.iconst (v := 1) (pc' := 493) rfl (by decide) rfl ?_
  refine Rn.iadd (pc' := 494) rfl rfl ?_
  refine Rn.iald (pc' := 495) rfl hs (vpk h7 hL (k := 1) (by omega) rfl) rfl ?_
  refine Rn.step (pc' := 496) rfl rfl ?_
  refine Rn.step (pc' := 497) rfl rfl ?_
  refine Rn.iconst (v := 2) (pc' := 498) rfl (by decide) rfl ?_
  refine Rn.iadd (pc' := 499) rfl rfl ?_
  refine Rn.iald (pc' := 500) rfl hs (vpk h7 hL (k := 2) (by omega) rfl) rfl ?_
  refine Rn.step (pc' := 501) rfl rfl ?_
  refine Rn.step (pc' := 502) rfl rfl ?_
  refine Rn.iconst (v := 3) (pc' := 503) rfl (by decide) rfl ?_
  refine Rn.iadd (pc' := 504) rfl rfl ?_
  refine Rn.iald (pc' := 505) rfl hs (vpk h7 hL (k := 3) (by omega) rfl) rfl ?_
  refine Rn.callV (pc' := 508) rfl (by decide) (by omega) rfl (rcvA hO rfl) rfl (b_ahead hi hN (sc (nI (7 * N) + 1).toNatClampNeg) (sc (nI (7 * N) + 2).toNatClampNeg) (sc (nI (7 * N) + 3).toNatClampNeg)) (fun r_ m_ hc_ => ?_)
  obtain ⟨y, rfl, ⟨⟨fs2, hm50⟩, hs2⟩, hc2⟩ := hc_
  refine Rn.step (pc' := 509) rfl rfl ?_
  refine Rn.step (pc' := 510) rfl rfl ?_
  refine Rn.step (pc' := 511) rfl rfl ?_
  refine Rn.iconst (v := 1) (pc' := 512) rfl (by decide) rfl ?_
  refine Rn.iadd (pc' := 513) rfl rfl ?_
  refine Rn.iald (pc' := 514) rfl hs2 (vpk h7 hL (k := 1) (by omega) rfl) rfl ?_
  refine Rn.step (pc' := 515) rfl rfl ?_
  refine Rn.step (pc' := 516) rfl rfl ?_
  refine Rn.iconst (v := 2) (pc' := 517) rfl (by decide) rfl ?_
  refine Rn.iadd (pc' := 518) rfl rfl ?_
  refine Rn.iald (pc' := 519) rfl hs2 (vpk h7 hL (k := 2) (by omega) rfl) rfl ?_
  refine Rn.step (pc' := 520) rfl rfl ?_
  refine Rn.step (pc' := 521) rfl rfl ?_
  refine Rn.iconst (v := 3) (pc' := 522) rfl (by decide) rfl ?_
  refine Rn.iadd (pc' := 523) rfl rfl ?_
  refine Rn.iald (pc' := 524) rfl hs2 (vpk h7 hL (k := 3) (by omega) rfl) rfl ?_
  refine Rn.callV (pc' := 527) rfl (by decide) (by omega) rfl (rcvA hm50 rfl) rfl hc2 (fun r_ m_ hc_ => ?_)
  obtain ⟨rfl, hinv⟩ := hc_
  exact Rn.icmp_eq (pc1 := 1042) (pc2 := 530) rfl rfl rfl (fun _ => kk _ hinv) (fun hne => absurd rfl hne)
set_option maxRecDepth 30000 in
theorem l_case14 (hL : Ls ≤ 3584) (h7 : 7 * N + 7 ≤ Ls) (hi : INV N sc Ls M) (kk : ∀ m2, INV (N + 1) sc Ls m2 → Rn 60 j_L_law 1042 [.ref (xS + 60), .ref 0, .ref 50, .int (nI (7 * N))] [] m2 Q) : Rn 60 j_L_law 532 [.ref (xS + 60), .ref 0, .ref 50, .int (nI (7 * N))] [] M Q := by
  obtain ⟨⟨_, hs⟩, ⟨fs, hO⟩, _⟩ := hi.ok
  have hN : N ≤ 550 := by omega
  refine Rn.step (pc' := 533) rfl rfl ?_
  refine Rn.step (pc' := 534) rfl rfl ?_
  refine Rn.step (pc' := 535) rfl rfl ?_
  refine Rn.iconst (v := 1) (pc' := 536) rfl (by decide) rfl ?_
  refine Rn.iadd (pc' := 537) rfl rfl ?_
  refine Rn.iald (pc' := 538) rfl hs (vpk h7 hL (k := 1) (by omega) rfl) rfl ?_
  refine Rn.step (pc' := 539) rfl rfl ?_
  refine Rn.step (pc' := 540) rfl rfl ?_
  refine Rn.iconst (v := 2) (pc' := 541) rfl (by decide) rfl ?_
  refine Rn.iadd (pc' := 542) rfl rfl ?_
  refine Rn.iald (pc' := 543) rfl hs (vpk h7 hL (k := 2) (by omega) rfl) rfl ?_
  refine Rn.callV (pc' := 546) rfl (by decide) (by omega) rfl (rcvA hO rfl) rfl (b_lend hi hN (sc (nI (7 * N) + 1).toNatClampNeg) (sc (nI (7 * N) + 2).toNatClampNeg)) (fun r_ m_ hc_ => ?_)
  obtain ⟨y, rfl, ⟨⟨fs2, hm50⟩, hs2⟩, hc2⟩ := hc_
  refine Rn.step (pc' := 547) rfl rfl ?_
  refine Rn.step (pc' := 548) rfl rfl ?_
  refine Rn.step (pc' := 549) rfl rfl ?_
  refine Rn.iconst (v := 1) (pc' := 550) rfl (by decide) rfl ?_
  refine Rn.iadd (pc' := 551) rfl rfl ?_
  refine Rn.iald (pc' := 552) rfl hs2 (vpk h7 hL (k := 1) (by omega) rfl) rfl ?_
  refine Rn.step (pc' := 553) rfl rfl ?_
  refine Rn.step (pc' := 554) rfl rfl ?_
  refine Rn.iconst (v := 2) (pc' := 555) rfl (by decide) rfl ?_
  refine Rn.iadd (pc' := 556) rfl rfl ?_
  refine Rn.iald (pc' := 557) rfl hs2 (vpk h7 hL (k := 2) (by omega) rfl) rfl ?_
  refine Rn.callV (pc' := 560) rfl (by decide) (by omega) rfl (rcvA hm50 rfl) rfl hc2 (fun r_ m_ hc_ => ?_)
  obtain ⟨rfl, hinv⟩ := hc_
  exact Rn.icmp_eq (pc1 := 1042) (pc2 := 563) rfl rfl rfl (fun _ => kk _ hinv) (fun hne => absurd rfl hne)
set_option maxRecDepth 30000 in
theorem l_case15 (hL : Ls ≤ 3584) (h7 : 7 * N + 7 ≤ Ls) (hi : INV N sc Ls M) (kk : ∀ m2, INV (N + 1) sc Ls m2 → Rn 60 j_L_law 1042 [.ref (xS + 60), .ref 0, .ref 50, .int (nI (7 * N))] [] m2 Q) : Rn 60 j_L_law 565 [.ref (xS + 60), .ref 0, .ref 50, .int (nI (7 * N))] [] M Q := by
  obtain ⟨⟨_, hs⟩, ⟨fs, hO⟩, _⟩ := hi.ok
  have hN : N ≤ 550 := by omega
  refine Rn.step (pc' := 566) rfl rfl ?_
  refine Rn.step (pc' := 567) rfl rfl ?_
  refine Rn.step (pc' := 568) rfl rfl ?_
  refine Rn.iconst (v := 1) (pc' := 569) rfl (by decide) rfl ?_
  refine Rn.iadd (pc' := 570) rfl rfl ?_
  refine Rn.iald (pc' := 571) rfl hs (vpk h7 hL (k := 1) (by omega) rfl) rfl ?_
  refine Rn.step (pc' := 572) rfl rfl ?_
  refine Rn.step (pc' := 573) rfl rfl ?_
  refine Rn.iconst (v := 2) (pc' := 574) rfl (by decide) rfl ?_
  refine Rn.iadd (pc' := 575) rfl rfl ?_
  refine Rn.iald (pc' := 576) rfl hs (vpk h7 hL (k := 2) (by omega) rfl) rfl ?_
  refine Rn.callV (pc' := 579) rfl (by decide) (by omega) rfl (rcvA hO rfl) rfl (b_worth hi hN (sc (nI (7 * N) + 1).toNatClampNeg) (sc (nI (7 * N) + 2).toNatClampNeg)) (fun r_ m_ hc_ => ?_)
  obtain ⟨y, rfl, ⟨⟨fs2, hm50⟩, hs2⟩, hc2⟩ := hc_
  refine Rn.step (pc' := 580) rfl rfl ?_
  refine Rn.step (pc' := 581) rfl rfl ?_
  refine Rn.step (pc' := 582) rfl rfl ?_
  refine Rn.iconst (v := 1) (pc' := 583) rfl (by decide) rfl ?_
  refine Rn.iadd (pc' := 584) rfl rfl ?_
  refine Rn.iald (pc' := 585) rfl hs2 (vpk h7 hL (k := 1) (by omega) rfl) rfl ?_
  refine Rn.step (pc' := 586) rfl rfl ?_
  refine Rn.step (pc' := 587) rfl rfl ?_
  refine Rn.iconst (v := 2) (pc' := 588) rfl (by decide) rfl ?_
  refine Rn.iadd (pc' := 589) rfl rfl ?_
  refine Rn.iald (pc' := 590) rfl hs2 (vpk h7 hL (k := 2) (by omega) rfl) rfl ?_
  refine Rn.callV (pc' := 593) rfl (by decide) (by omega) rfl (rcvA hm50 rfl) rfl hc2 (fun r_ m_ hc_ => ?_)
  obtain ⟨rfl, hinv⟩ := hc_
  exact Rn.icmp_eq (pc1 := 1042) (pc2 := 596) rfl rfl rfl (fun _ => kk _ hinv) (fun hne => absurd rfl hne)
set_option maxRecDepth 30000 in
theorem l_case16 (hL : Ls ≤ 3584) (h7 : 7 * N + 7 ≤ Ls) (hi : INV N sc Ls M) (kk : ∀ m2, INV (N + 1) sc Ls m2 → Rn 60 j_L_law 1042 [.ref (xS + 60), .ref 0, .ref 50, .int (nI (7 * N))] [] m2 Q) : Rn 60 j_L_law 598 [.ref (xS + 60), .ref 0, .ref 50, .int (nI (7 * N))] [] M Q := by
  obtain ⟨⟨_, hs⟩, ⟨fs, hO⟩, _⟩ := hi.ok
  have hN : N ≤ 550 := by omega
  refine Rn.step (pc' := 599) rfl rfl ?_
  refine Rn.step (pc' := 600) rfl rfl ?_
  refine Rn.step (pc' := 601) rfl rfl ?_
  refine Rn.iconst (v := 1) (pc' := 602) rfl (by decide) rfl ?_
  refine Rn.iadd (pc' := 603) rfl rfl ?_
  refine Rn.iald (pc' := 604) rfl hs (vpk h7 hL (k := 1) (by omega) rfl) rfl ?_
  refine Rn.callV (pc' := 607) rfl (by decide) (by omega) rfl (rcvA hO rfl) rfl (b_bids hi hN (sc (nI (7 * N) + 1).toNatClampNeg)) (fun r_ m_ hc_ => ?_)
  obtain ⟨y, rfl, ⟨⟨fs2, hm50⟩, hs2⟩, hc2⟩ := hc_
  refine Rn.step (pc' := 608) rfl rfl ?_
  refine Rn.step (pc' := 609) rfl rfl ?_
  refine Rn.step (pc' := 610) rfl rfl ?_
  refine Rn.iconst (v := 1) (pc' := 611) rfl (by decide) rfl ?_
  refine Rn.iadd (pc' := 612) rfl rfl ?_
  refine Rn.iald (pc' := 613) rfl hs2 (vpk h7 hL (k := 1) (by omega) rfl) rfl ?_
  refine Rn.callV (pc' := 616) rfl (by decide) (by omega) rfl (rcvA hm50 rfl) rfl hc2 (fun r_ m_ hc_ => ?_)
  obtain ⟨rfl, hinv⟩ := hc_
  exact Rn.icmp_eq (pc1 := 1042) (pc2 := 619) rfl rfl rfl (fun _ => kk _ hinv) (fun hne => absurd rfl hne)
set_option maxRecDepth 30000 in
theorem l_case17 (hL : Ls ≤ 3584) (h7 : 7 * N + 7 ≤ Ls) (hi : INV N sc Ls M) (kk : ∀ m2, INV (N + 1) sc Ls m2 → Rn 60 j_L_law 1042 [.ref (xS + 60), .ref 0, .ref 50, .int (nI (7 * N))] [] m2 Q) : Rn 60 j_L_law 621 [.ref (xS + 60), .ref 0, .ref 50, .int (nI (7 * N))] [] M Q := by
  obtain ⟨⟨_, hs⟩, ⟨fs, hO⟩, _⟩ := hi.ok
  have hN : N ≤ 550 := by omega
  refine Rn.step (pc' := 622) rfl rfl ?_
  refine Rn.step (pc' := 623) rfl rfl ?_
  refine Rn.step (pc' := 624) rfl rfl ?_
  refine Rn.iconst (v := 1) (pc' := 625) rfl (by decide) rfl ?_
  refine Rn.iadd (pc' := 626) rfl rfl ?_
  refine Rn.iald (pc' := 627) rfl hs (vpk h7 hL (k := 1) (by omega) rfl) rfl ?_
  refine Rn.step (pc' := 628) rfl rfl ?_
  refine Rn.step (pc' := 629) rfl rfl ?_
  refine Rn.iconst (v := 2) (pc' := 630) rfl (by decide) rfl ?_
  refine Rn.iadd (pc' := 631) rfl rfl ?_
  refine Rn.iald (pc' := 632) rfl hs (vpk h7 hL (k := 2) (by omega) rfl) rfl ?_
  refine Rn.callV (pc' := 635) rfl (by decide) (by omega) rfl (rcvA hO rfl) rfl (b_relay hi hN (sc (nI (7 * N) + 1).toNatClampNeg) (sc (nI (7 * N) + 2).toNatClampNeg)) (fun r_ m_ hc_ => ?_)
  obtain ⟨y, rfl, ⟨⟨fs2, hm50⟩, hs2⟩, hc2⟩ := hc_
  refine Rn.step (pc' := 636) rfl rfl ?_
  refine Rn.step (pc' := 637) rfl rfl ?_
  refine Rn.step (pc' := 638) rfl rfl ?_
  refine Rn.iconst (v := 1) (pc' := 639) rfl (by decide) rfl ?_
  refine Rn.iadd (pc' := 640) rfl rfl ?_
  refine Rn.iald (pc' := 641) rfl hs2 (vpk h7 hL (k := 1) (by omega) rfl) rfl ?_
  refine Rn.step (pc' := 642) rfl rfl ?_
  refine Rn.step (pc' := 643) rfl rfl ?_
  refine Rn.iconst (v := 2) (pc' := 644) rfl (by decide) rfl ?_
  refine Rn.iadd (pc' := 645) rfl rfl ?_
  refine Rn.iald (pc' := 646) rfl hs2 (vpk h7 hL (k := 2) (by omega) rfl) rfl ?_
  refine Rn.callV (pc' := 649) rfl (by decide) (by omega) rfl (rcvA hm50 rfl) rfl hc2 (fun r_ m_ hc_ => ?_)
  obtain ⟨rfl, hinv⟩ := hc_
  exact Rn.icmp_eq (pc1 := 1042) (pc2 := 652) rfl rfl rfl (fun _ => kk _ hinv) (fun hne => absurd rfl hne)
set_option maxRecDepth 30000 in
theorem l_case18 (hL : Ls ≤ 3584) (h7 : 7 * N + 7 ≤ Ls) (hi : INV N sc Ls M) (kk : ∀ m2, INV (N + 1) sc Ls m2 → Rn 60 j_L_law 1042 [.ref (xS + 60), .ref 0, .ref 50, .int (nI (7 * N))] [] m2 Q) : Rn 60 j_L_law 654 [.ref (xS + 60), .ref 0, .ref 50, .int (nI (7 * N))] [] M Q := by
  obtain ⟨⟨_, hs⟩, ⟨fs, hO⟩, _⟩ := hi.ok
  have hN : N ≤ 550 := by omega
  refine Rn.step (pc' := 655) rfl rfl ?_
  refine Rn.step (pc' := 656) rfl rfl ?_
  refine Rn.step (pc' := 657) rfl rfl ?_
  refine Rn.iconst (v := 1) (pc' := 658) rfl (by decide) rfl ?_
  refine Rn.iadd (pc' := 659) rfl rfl ?_
  refine Rn.iald (pc' := 660) rfl hs (vpk h7 hL (k := 1) (by omega) rfl) rfl ?_
  refine Rn.step (pc' := 661) rfl rfl ?_
  refine Rn.step (pc' := 662) rfl rfl ?_
  refine Rn.iconst (v := 2) (pc' := 663) rfl (by decide) rfl ?_
  refine Rn.iadd (pc' := 664) rfl rfl ?_
  refine Rn.iald (pc' := 665) rfl hs (vpk h7 hL (k := 2) (by omega) rfl) rfl ?_
  refine Rn.step (pc' := 666) rfl rfl ?_
  refine Rn.step (pc' := 667) rfl rfl ?_
  refine Rn.iconst (v := 3) (pc' := 668) rfl (by decide) rfl ?_
  refine Rn.iadd (pc' := 669) rfl rfl ?_
  refine Rn.iald (pc' := 670) rfl hs (vpk h7 hL (k := 3) (by omega) rfl) rfl ?_
  refine Rn.step (pc' := 671) rfl rfl ?_
  refine Rn.step (pc' := 672) rfl rfl ?_
  refine Rn.iconst (v := 4) (pc' := 673) rfl (by decide) rfl ?_
  refine Rn.iadd (pc' := 674) rfl rfl ?_
  refine Rn.iald (pc' := 675) rfl hs (vpk h7 hL (k := 4) (by omega) rfl) rfl ?_
  refine Rn.ifc_eq (pc1 := 682) (pc2 := 678) rfl rfl rfl (fun hz => ?_) (fun hz => ?_)
  · refine Rn.iconst (v := 0) (pc' := 683) rfl (by decide) rfl ?_
    refine Rn.callV (pc' := 686) rfl (by decide) (by omega) rfl (rcvA hO rfl) rfl (b_print hi hN (sc (nI (7 * N) + 1).toNatClampNeg) (sc (nI (7 * N) + 2).toNatClampNeg) (sc (nI (7 * N) + 3).toNatClampNeg) 0) (fun r_ m_ hc_ => ?_)
    obtain ⟨y, rfl, ⟨⟨fs2, hm50⟩, hs2⟩, hc2⟩ := hc_
    refine Rn.step (pc' := 687) rfl rfl ?_
    refine Rn.step (pc' := 688) rfl rfl ?_
    refine Rn.step (pc' := 689) rfl rfl ?_
    refine Rn.iconst (v := 1) (pc' := 690) rfl (by decide) rfl ?_
    refine Rn.iadd (pc' := 691) rfl rfl ?_
    refine Rn.iald (pc' := 692) rfl hs2 (vpk h7 hL (k := 1) (by omega) rfl) rfl ?_
    refine Rn.step (pc' := 693) rfl rfl ?_
    refine Rn.step (pc' := 694) rfl rfl ?_
    refine Rn.iconst (v := 2) (pc' := 695) rfl (by decide) rfl ?_
    refine Rn.iadd (pc' := 696) rfl rfl ?_
    refine Rn.iald (pc' := 697) rfl hs2 (vpk h7 hL (k := 2) (by omega) rfl) rfl ?_
    refine Rn.step (pc' := 698) rfl rfl ?_
    refine Rn.step (pc' := 699) rfl rfl ?_
    refine Rn.iconst (v := 3) (pc' := 700) rfl (by decide) rfl ?_
    refine Rn.iadd (pc' := 701) rfl rfl ?_
    refine Rn.iald (pc' := 702) rfl hs2 (vpk h7 hL (k := 3) (by omega) rfl) rfl ?_
    refine Rn.step (pc' := 703) rfl rfl ?_
    refine Rn.step (pc' := 704) rfl rfl ?_
    refine Rn.iconst (v := 4) (pc' := 705) rfl (by decide) rfl ?_
    refine Rn.iadd (pc' := 706) rfl rfl ?_
    refine Rn.iald (pc' := 707) rfl hs2 (vpk h7 hL (k := 4) (by omega) rfl) rfl ?_
    refine Rn.ifc_eq (pc1 := 714) (pc2 := 710) rfl rfl rfl (fun hz2 => ?_) (fun hz2 => absurd hz hz2)
    refine Rn.iconst (v := 0) (pc' := 715) rfl (by decide) rfl ?_
    refine Rn.callV (pc' := 718) rfl (by decide) (by omega) rfl (rcvA hm50 rfl) rfl hc2 (fun r_ m_ hc_ => ?_)
    obtain ⟨rfl, hinv⟩ := hc_
    exact Rn.icmp_eq (pc1 := 1042) (pc2 := 721) rfl rfl rfl (fun _ => kk _ hinv) (fun hne => absurd rfl hne)
  · refine Rn.iconst (v := 1) (pc' := 679) rfl (by decide) rfl ?_
    refine Rn.step (pc' := 683) rfl rfl ?_
    refine Rn.callV (pc' := 686) rfl (by decide) (by omega) rfl (rcvA hO rfl) rfl (b_print hi hN (sc (nI (7 * N) + 1).toNatClampNeg) (sc (nI (7 * N) + 2).toNatClampNeg) (sc (nI (7 * N) + 3).toNatClampNeg) 1) (fun r_ m_ hc_ => ?_)
    obtain ⟨y, rfl, ⟨⟨fs2, hm50⟩, hs2⟩, hc2⟩ := hc_
    refine Rn.step (pc' := 687) rfl rfl ?_
    refine Rn.step (pc' := 688) rfl rfl ?_
    refine Rn.step (pc' := 689) rfl rfl ?_
    refine Rn.iconst (v := 1) (pc' := 690) rfl (by decide) rfl ?_
    refine Rn.iadd (pc' := 691) rfl rfl ?_
    refine Rn.iald (pc' := 692) rfl hs2 (vpk h7 hL (k := 1) (by omega) rfl) rfl ?_
    refine Rn.step (pc' := 693) rfl rfl ?_
    refine Rn.step (pc' := 694) rfl rfl ?_
    refine Rn.iconst (v := 2) (pc' := 695) rfl (by decide) rfl ?_
    refine Rn.iadd (pc' := 696) rfl rfl ?_
    refine Rn.iald (pc' := 697) rfl hs2 (vpk h7 hL (k := 2) (by omega) rfl) rfl ?_
    refine Rn.step (pc' := 698) rfl rfl ?_
    refine Rn.step (pc' := 699) rfl rfl ?_
    refine Rn.iconst (v := 3) (pc' := 700) rfl (by decide) rfl ?_
    refine Rn.iadd (pc' := 701) rfl rfl ?_
    refine Rn.iald (pc' := 702) rfl hs2 (vpk h7 hL (k := 3) (by omega) rfl) rfl ?_
    refine Rn.step (pc' := 703) rfl rfl ?_
    refine Rn.step (pc' := 704) rfl rfl ?_
    refine Rn.iconst (v := 4) (pc' := 705) rfl (by decide) rfl ?_
    refine Rn.iadd (pc' := 706) rfl rfl ?_
    refine Rn.iald (pc' := 707) rfl hs2 (vpk h7 hL (k := 4) (by omega) rfl) rfl ?_
    refine Rn.ifc_eq (pc1 := 714) (pc2 := 710) rfl rfl rfl (fun hz2 => absurd hz2 hz) (fun hz2 => ?_)
    refine Rn.iconst (v := 1) (pc' := 711) rfl (by decide) rfl ?_
    refine Rn.step (pc' := 715) rfl rfl ?_
    refine Rn.callV (pc' := 718) rfl (by decide) (by omega) rfl (rcvA hm50 rfl) rfl hc2 (fun r_ m_ hc_ => ?_)
    obtain ⟨rfl, hinv⟩ := hc_
    exact Rn.icmp_eq (pc1 := 1042) (pc2 := 721) rfl rfl rfl (fun _ => kk _ hinv) (fun hne => absurd rfl hne)
set_option maxRecDepth 30000 in
theorem l_case19 (hL : Ls ≤ 3584) (h7 : 7 * N + 7 ≤ Ls) (hi : INV N sc Ls M) (kk : ∀ m2, INV (N + 1) sc Ls m2 → Rn 60 j_L_law 1042 [.ref (xS + 60), .ref 0, .ref 50, .int (nI (7 * N))] [] m2 Q) : Rn 60 j_L_law 723 [.ref (xS + 60), .ref 0, .ref 50, .int (nI (7 * N))] [] M Q := by
  obtain ⟨⟨_, hs⟩, ⟨fs, hO⟩, _⟩ := hi.ok
  have hN : N ≤ 550 := by omega
  refine Rn.step (pc' := 724) rfl rfl ?_
  refine Rn.step (pc' := 725) rfl rfl ?_
  refine Rn.step (pc' := 726) rfl rfl ?_
  refine Rn.iconst (v := 1) (pc' := 727) rfl (by decide) rfl ?_
  refine Rn.iadd (pc' := 728) rfl rfl ?_
  refine Rn.iald (pc' := 729) rfl hs (vpk h7 hL (k := 1) (by omega) rfl) rfl ?_
  refine Rn.callV (pc' := 732) rfl (by decide) (by omega) rfl (rcvA hO rfl) rfl (b_feet hi hN (sc (nI (7 * N) + 1).toNatClampNeg)) (fun r_ m_ hc_ => ?_)
  obtain ⟨y, rfl, ⟨⟨fs2, hm50⟩, hs2⟩, hc2⟩ := hc_
  refine Rn.step (pc' := 733) rfl rfl ?_
  refine Rn.step (pc' := 734) rfl rfl ?_
  refine Rn.step (pc' := 735) rfl rfl ?_
  refine Rn.iconst (v := 1) (pc' := 736) rfl (by decide) rfl ?_
  refine Rn.iadd (pc' := 737) rfl rfl ?_
  refine Rn.iald (pc' := 738) rfl hs2 (vpk h7 hL (k := 1) (by omega) rfl) rfl ?_
  refine Rn.callV (pc' := 741) rfl (by decide) (by omega) rfl (rcvA hm50 rfl) rfl hc2 (fun r_ m_ hc_ => ?_)
  obtain ⟨rfl, hinv⟩ := hc_
  exact Rn.icmp_eq (pc1 := 1042) (pc2 := 744) rfl rfl rfl (fun _ => kk _ hinv) (fun hne => absurd rfl hne)
set_option maxRecDepth 30000 in
theorem l_case20 (hL : Ls ≤ 3584) (h7 : 7 * N + 7 ≤ Ls) (hi : INV N sc Ls M) (kk : ∀ m2, INV (N + 1) sc Ls m2 → Rn 60 j_L_law 1042 [.ref (xS + 60), .ref 0, .ref 50, .int (nI (7 * N))] [] m2 Q) : Rn 60 j_L_law 746 [.ref (xS + 60), .ref 0, .ref 50, .int (nI (7 * N))] [] M Q := by
  obtain ⟨⟨_, hs⟩, ⟨fs, hO⟩, _⟩ := hi.ok
  have hN : N ≤ 550 := by omega
  refine Rn.step (pc' := 747) rfl rfl ?_
  refine Rn.step (pc' := 748) rfl rfl ?_
  refine Rn.step (pc' := 749) rfl rfl ?_
  refine Rn.iconst (v := 1) (pc' := 750) rfl (by decide) rfl ?_
  refine Rn.iadd (pc' := 751) rfl rfl ?_
  refine Rn.iald (pc' := 752) rfl hs (vpk h7 hL (k := 1) (by omega) rfl) rfl ?_
  refine Rn.step (pc' := 753) rfl rfl ?_
  refine Rn.step (pc' := 754) rfl rfl ?_
  refine Rn.iconst (v := 2) (pc' := 755) rfl (by decide) rfl ?_
  refine Rn.iadd (pc' := 756) rfl rfl ?_
  refine Rn.iald (pc' := 757) rfl hs (vpk h7 hL (k := 2) (by omega) rfl) rfl ?_
  refine Rn.callV (pc' := 760) rfl (by decide) (by omega) rfl (rcvA hO rfl) rfl (b_look hi hN (sc (nI (7 * N) + 1).toNatClampNeg) (sc (nI (7 * N) + 2).toNatClampNeg)) (fun r_ m_ hc_ => ?_)
  obtain ⟨y, rfl, ⟨⟨fs2, hm50⟩, hs2⟩, hc2⟩ := hc_
  refine Rn.step (pc' := 761) rfl rfl ?_
  refine Rn.step (pc' := 762) rfl rfl ?_
  refine Rn.step (pc' := 763) rfl rfl ?_
  refine Rn.iconst (v := 1) (pc' := 764) rfl (by decide) rfl ?_
  refine Rn.iadd (pc' := 765) rfl rfl ?_
  refine Rn.iald (pc' := 766) rfl hs2 (vpk h7 hL (k := 1) (by omega) rfl) rfl ?_
  refine Rn.step (pc' := 767) rfl rfl ?_
  refine Rn.step (pc' := 768) rfl rfl ?_
  refine Rn.iconst (v := 2) (pc' := 769) rfl (by decide) rfl ?_
  refine Rn.iadd (pc' := 770) rfl rfl ?_
  refine Rn.iald (pc' := 771) rfl hs2 (vpk h7 hL (k := 2) (by omega) rfl) rfl ?_
  refine Rn.callV (pc' := 774) rfl (by decide) (by omega) rfl (rcvA hm50 rfl) rfl hc2 (fun r_ m_ hc_ => ?_)
  obtain ⟨rfl, hinv⟩ := hc_
  exact Rn.icmp_eq (pc1 := 1042) (pc2 := 777) rfl rfl rfl (fun _ => kk _ hinv) (fun hne => absurd rfl hne)
set_option maxRecDepth 30000 in
theorem l_case21 (hL : Ls ≤ 3584) (h7 : 7 * N + 7 ≤ Ls) (hi : INV N sc Ls M) (kk : ∀ m2, INV (N + 1) sc Ls m2 → Rn 60 j_L_law 1042 [.ref (xS + 60), .ref 0, .ref 50, .int (nI (7 * N))] [] m2 Q) : Rn 60 j_L_law 779 [.ref (xS + 60), .ref 0, .ref 50, .int (nI (7 * N))] [] M Q := by
  obtain ⟨⟨_, hs⟩, ⟨fs, hO⟩, _⟩ := hi.ok
  have hN : N ≤ 550 := by omega
  refine Rn.step (pc' := 780) rfl rfl ?_
  refine Rn.step (pc' := 781) rfl rfl ?_
  refine Rn.step (pc' := 782) rfl rfl ?_
  refine Rn.iconst (v := 1) (pc' := 783) rfl (by decide) rfl ?_
  refine Rn.iadd (pc' := 784) rfl rfl ?_
  refine Rn.iald (pc' := 785) rfl hs (vpk h7 hL (k := 1) (by omega) rfl) rfl ?_
  refine Rn.step (pc' := 786) rfl rfl ?_
  refine Rn.step (pc' := 787) rfl rfl ?_
  refine Rn.iconst (v := 2) (pc' := 788) rfl (by decide) rfl ?_
  refine Rn.iadd (pc' := 789) rfl rfl ?_
  refine Rn.iald (pc' := 790) rfl hs (vpk h7 hL (k := 2) (by omega) rfl) rfl ?_
  refine Rn.step (pc' := 791) rfl rfl ?_
  refine Rn.step (pc' := 792) rfl rfl ?_
  refine Rn.iconst (v := 3) (pc' := 793) rfl (by decide) rfl ?_
  refine Rn.iadd (pc' := 794) rfl rfl ?_
  refine Rn.iald (pc' := 795) rfl hs (vpk h7 hL (k := 3) (by omega) rfl) rfl ?_
  refine Rn.step (pc' := 796) rfl rfl ?_
  refine Rn.step (pc' := 797) rfl rfl ?_
  refine Rn.iconst (v := 4) (pc' := 798) rfl (by decide) rfl ?_
  refine Rn.iadd (pc' := 799) rfl rfl ?_
  refine Rn.iald (pc' := 800) rfl hs (vpk h7 hL (k := 4) (by omega) rfl) rfl ?_
  refine Rn.step (pc' := 801) rfl rfl ?_
  refine Rn.step (pc' := 802) rfl rfl ?_
  refine Rn.iconst (v := 5) (pc' := 803) rfl (by decide) rfl ?_
  refine Rn.iadd (pc' := 804) rfl rfl ?_
  refine Rn.iald (pc' := 805) rfl hs (vpk h7 hL (k := 5) (by omega) rfl) rfl ?_
  refine Rn.step (pc' := 806) rfl rfl ?_
  refine Rn.step (pc' := 807) rfl rfl ?_
  refine Rn.iconst (v := 6) (pc' := 809) rfl (by decide) rfl ?_
  refine Rn.iadd (pc' := 810) rfl rfl ?_
  refine Rn.iald (pc' := 811) rfl hs (vpk h7 hL (k := 6) (by omega) rfl) rfl ?_
  refine Rn.callV (pc' := 814) rfl (by decide) (by omega) rfl (rcvA hO rfl) rfl (b_cobbler hi hN (sc (nI (7 * N) + 1).toNatClampNeg) (sc (nI (7 * N) + 2).toNatClampNeg) (sc (nI (7 * N) + 3).toNatClampNeg) (sc (nI (7 * N) + 4).toNatClampNeg) (sc (nI (7 * N) + 5).toNatClampNeg) (sc (nI (7 * N) + 6).toNatClampNeg)) (fun r_ m_ hc_ => ?_)
  obtain ⟨y, rfl, ⟨⟨fs2, hm50⟩, hs2⟩, hc2⟩ := hc_
  refine Rn.step (pc' := 815) rfl rfl ?_
  refine Rn.step (pc' := 816) rfl rfl ?_
  refine Rn.step (pc' := 817) rfl rfl ?_
  refine Rn.iconst (v := 1) (pc' := 818) rfl (by decide) rfl ?_
  refine Rn.iadd (pc' := 819) rfl rfl ?_
  refine Rn.iald (pc' := 820) rfl hs2 (vpk h7 hL (k := 1) (by omega) rfl) rfl ?_
  refine Rn.step (pc' := 821) rfl rfl ?_
  refine Rn.step (pc' := 822) rfl rfl ?_
  refine Rn.iconst (v := 2) (pc' := 823) rfl (by decide) rfl ?_
  refine Rn.iadd (pc' := 824) rfl rfl ?_
  refine Rn.iald (pc' := 825) rfl hs2 (vpk h7 hL (k := 2) (by omega) rfl) rfl ?_
  refine Rn.step (pc' := 826) rfl rfl ?_
  refine Rn.step (pc' := 827) rfl rfl ?_
  refine Rn.iconst (v := 3) (pc' := 828) rfl (by decide) rfl ?_
  refine Rn.iadd (pc' := 829) rfl rfl ?_
  refine Rn.iald (pc' := 830) rfl hs2 (vpk h7 hL (k := 3) (by omega) rfl) rfl ?_
  refine Rn.step (pc' := 831) rfl rfl ?_
  refine Rn.step (pc' := 832) rfl rfl ?_
  refine Rn.iconst (v := 4) (pc' := 833) rfl (by decide) rfl ?_
  refine Rn.iadd (pc' := 834) rfl rfl ?_
  refine Rn.iald (pc' := 835) rfl hs2 (vpk h7 hL (k := 4) (by omega) rfl) rfl ?_
  refine Rn.step (pc' := 836) rfl rfl ?_
  refine Rn.step (pc' := 837) rfl rfl ?_
  refine Rn.iconst (v := 5) (pc' := 838) rfl (by decide) rfl ?_
  refine Rn.iadd (pc' := 839) rfl rfl ?_
  refine Rn.iald (pc' := 840) rfl hs2 (vpk h7 hL (k := 5) (by omega) rfl) rfl ?_
  refine Rn.step (pc' := 841) rfl rfl ?_
  refine Rn.step (pc' := 842) rfl rfl ?_
  refine Rn.iconst (v := 6) (pc' := 844) rfl (by decide) rfl ?_
  refine Rn.iadd (pc' := 845) rfl rfl ?_
  refine Rn.iald (pc' := 846) rfl hs2 (vpk h7 hL (k := 6) (by omega) rfl) rfl ?_
  refine Rn.callV (pc' := 849) rfl (by decide) (by omega) rfl (rcvA hm50 rfl) rfl hc2 (fun r_ m_ hc_ => ?_)
  obtain ⟨rfl, hinv⟩ := hc_
  exact Rn.icmp_eq (pc1 := 1042) (pc2 := 852) rfl rfl rfl (fun _ => kk _ hinv) (fun hne => absurd rfl hne)
set_option maxRecDepth 30000 in
theorem l_case22 (hL : Ls ≤ 3584) (h7 : 7 * N + 7 ≤ Ls) (hi : INV N sc Ls M) (kk : ∀ m2, INV (N + 1) sc Ls m2 → Rn 60 j_L_law 1042 [.ref (xS + 60), .ref 0, .ref 50, .int (nI (7 * N))] [] m2 Q) : Rn 60 j_L_law 854 [.ref (xS + 60), .ref 0, .ref 50, .int (nI (7 * N))] [] M Q := by
  obtain ⟨⟨_, hs⟩, ⟨fs, hO⟩, _⟩ := hi.ok
  have hN : N ≤ 550 := by omega
  refine Rn.step (pc' := 855) rfl rfl ?_
  refine Rn.step (pc' := 856) rfl rfl ?_
  refine Rn.step (pc' := 857) rfl rfl ?_
  refine Rn.iconst (v := 1) (pc' := 858) rfl (by decide) rfl ?_
  refine Rn.iadd (pc' := 859) rfl rfl ?_
  refine Rn.iald (pc' := 860) rfl hs (vpk h7 hL (k := 1) (by omega) rfl) rfl ?_
  refine Rn.step (pc' := 861) rfl rfl ?_
  refine Rn.step (pc' := 862) rfl rfl ?_
  refine Rn.iconst (v := 2) (pc' := 863) rfl (by decide) rfl ?_
  refine Rn.iadd (pc' := 864) rfl rfl ?_
  refine Rn.iald (pc' := 865) rfl hs (vpk h7 hL (k := 2) (by omega) rfl) rfl ?_
  refine Rn.step (pc' := 866) rfl rfl ?_
  refine Rn.step (pc' := 867) rfl rfl ?_
  refine Rn.iconst (v := 3) (pc' := 868) rfl (by decide) rfl ?_
  refine Rn.iadd (pc' := 869) rfl rfl ?_
  refine Rn.iald (pc' := 870) rfl hs (vpk h7 hL (k := 3) (by omega) rfl) rfl ?_
  refine Rn.callV (pc' := 873) rfl (by decide) (by omega) rfl (rcvA hO rfl) rfl (b_second hi hN (sc (nI (7 * N) + 1).toNatClampNeg) (sc (nI (7 * N) + 2).toNatClampNeg) (sc (nI (7 * N) + 3).toNatClampNeg)) (fun r_ m_ hc_ => ?_)
  obtain ⟨y, rfl, ⟨⟨fs2, hm50⟩, hs2⟩, hc2⟩ := hc_
  refine Rn.step (pc' := 874) rfl rfl ?_
  refine Rn.step (pc' := 875) rfl rfl ?_
  refine Rn.step (pc' := 876) rfl rfl ?_
  refine Rn.iconst (v := 1) (pc' := 877) rfl (by decide) rfl ?_
  refine Rn.iadd (pc' := 878) rfl rfl ?_
  refine Rn.iald (pc' := 879) rfl hs2 (vpk h7 hL (k := 1) (by omega) rfl) rfl ?_
  refine Rn.step (pc' := 880) rfl rfl ?_
  refine Rn.step (pc' := 881) rfl rfl ?_
  refine Rn.iconst (v := 2) (pc' := 882) rfl (by decide) rfl ?_
  refine Rn.iadd (pc' := 883) rfl rfl ?_
  refine Rn.iald (pc' := 884) rfl hs2 (vpk h7 hL (k := 2) (by omega) rfl) rfl ?_
  refine Rn.step (pc' := 885) rfl rfl ?_
  refine Rn.step (pc' := 886) rfl rfl ?_
  refine Rn.iconst (v := 3) (pc' := 887) rfl (by decide) rfl ?_
  refine Rn.iadd (pc' := 888) rfl rfl ?_
  refine Rn.iald (pc' := 889) rfl hs2 (vpk h7 hL (k := 3) (by omega) rfl) rfl ?_
  refine Rn.callV (pc' := 892) rfl (by decide) (by omega) rfl (rcvA hm50 rfl) rfl hc2 (fun r_ m_ hc_ => ?_)
  obtain ⟨rfl, hinv⟩ := hc_
  exact Rn.icmp_eq (pc1 := 1042) (pc2 := 895) rfl rfl rfl (fun _ => kk _ hinv) (fun hne => absurd rfl hne)
set_option maxRecDepth 30000 in
theorem l_case23 (hL : Ls ≤ 3584) (h7 : 7 * N + 7 ≤ Ls) (hi : INV N sc Ls M) (kk : ∀ m2, INV (N + 1) sc Ls m2 → Rn 60 j_L_law 1042 [.ref (xS + 60), .ref 0, .ref 50, .int (nI (7 * N))] [] m2 Q) : Rn 60 j_L_law 897 [.ref (xS + 60), .ref 0, .ref 50, .int (nI (7 * N))] [] M Q := by
  obtain ⟨⟨_, hs⟩, ⟨fs, hO⟩, _⟩ := hi.ok
  have hN : N ≤ 550 := by omega
  refine Rn.step (pc' := 898) rfl rfl ?_
  refine Rn.step (pc' := 899) rfl rfl ?_
  refine Rn.step (pc' := 900) rfl rfl ?_
  refine Rn.iconst (v := 1) (pc' := 901) rfl (by decide) rfl ?_
  refine Rn.iadd (pc' := 902) rfl rfl ?_
  refine Rn.iald (pc' := 903) rfl hs (vpk h7 hL (k := 1) (by omega) rfl) rfl ?_
  refine Rn.callV (pc' := 906) rfl (by decide) (by omega) rfl (rcvA hO rfl) rfl (b_seed hi hN (sc (nI (7 * N) + 1).toNatClampNeg)) (fun r_ m_ hc_ => ?_)
  obtain ⟨y, rfl, ⟨⟨fs2, hm50⟩, hs2⟩, hc2⟩ := hc_
  refine Rn.step (pc' := 907) rfl rfl ?_
  refine Rn.step (pc' := 908) rfl rfl ?_
  refine Rn.step (pc' := 909) rfl rfl ?_
  refine Rn.iconst (v := 1) (pc' := 910) rfl (by decide) rfl ?_
  refine Rn.iadd (pc' := 911) rfl rfl ?_
  refine Rn.iald (pc' := 912) rfl hs2 (vpk h7 hL (k := 1) (by omega) rfl) rfl ?_
  refine Rn.callV (pc' := 915) rfl (by decide) (by omega) rfl (rcvA hm50 rfl) rfl hc2 (fun r_ m_ hc_ => ?_)
  obtain ⟨rfl, hinv⟩ := hc_
  exact Rn.icmp_eq (pc1 := 1042) (pc2 := 918) rfl rfl rfl (fun _ => kk _ hinv) (fun hne => absurd rfl hne)
set_option maxRecDepth 30000 in
theorem l_case24 (hL : Ls ≤ 3584) (h7 : 7 * N + 7 ≤ Ls) (hi : INV N sc Ls M) (kk : ∀ m2, INV (N + 1) sc Ls m2 → Rn 60 j_L_law 1042 [.ref (xS + 60), .ref 0, .ref 50, .int (nI (7 * N))] [] m2 Q) : Rn 60 j_L_law 920 [.ref (xS + 60), .ref 0, .ref 50, .int (nI (7 * N))] [] M Q := by
  obtain ⟨⟨_, hs⟩, ⟨fs, hO⟩, _⟩ := hi.ok
  have hN : N ≤ 550 := by omega
  refine Rn.step (pc' := 921) rfl rfl ?_
  refine Rn.step (pc' := 922) rfl rfl ?_
  refine Rn.step (pc' := 923) rfl rfl ?_
  refine Rn.iconst (v := 1) (pc' := 924) rfl (by decide) rfl ?_
  refine Rn.iadd (pc' := 925) rfl rfl ?_
  refine Rn.iald (pc' := 926) rfl hs (vpk h7 hL (k := 1) (by omega) rfl) rfl ?_
  refine Rn.step (pc' := 927) rfl rfl ?_
  refine Rn.step (pc' := 928) rfl rfl ?_
  refine Rn.iconst (v := 2) (pc' := 929) rfl (by decide) rfl ?_
  refine Rn.iadd (pc' := 930) rfl rfl ?_
  refine Rn.iald (pc' := 931) rfl hs (vpk h7 hL (k := 2) (by omega) rfl) rfl ?_
  refine Rn.step (pc' := 932) rfl rfl ?_
  refine Rn.step (pc' := 933) rfl rfl ?_
  refine Rn.iconst (v := 3) (pc' := 934) rfl (by decide) rfl ?_
  refine Rn.iadd (pc' := 935) rfl rfl ?_
  refine Rn.iald (pc' := 936) rfl hs (vpk h7 hL (k := 3) (by omega) rfl) rfl ?_
  refine Rn.step (pc' := 937) rfl rfl ?_
  refine Rn.step (pc' := 938) rfl rfl ?_
  refine Rn.iconst (v := 4) (pc' := 939) rfl (by decide) rfl ?_
  refine Rn.iadd (pc' := 940) rfl rfl ?_
  refine Rn.iald (pc' := 941) rfl hs (vpk h7 hL (k := 4) (by omega) rfl) rfl ?_
  refine Rn.callV (pc' := 944) rfl (by decide) (by omega) rfl (rcvA hO rfl) rfl (b_winters hi hN (sc (nI (7 * N) + 1).toNatClampNeg) (sc (nI (7 * N) + 2).toNatClampNeg) (sc (nI (7 * N) + 3).toNatClampNeg) (sc (nI (7 * N) + 4).toNatClampNeg)) (fun r_ m_ hc_ => ?_)
  obtain ⟨y, rfl, ⟨⟨fs2, hm50⟩, hs2⟩, hc2⟩ := hc_
  refine Rn.step (pc' := 945) rfl rfl ?_
  refine Rn.step (pc' := 946) rfl rfl ?_
  refine Rn.step (pc' := 947) rfl rfl ?_
  refine Rn.iconst (v := 1) (pc' := 948) rfl (by decide) rfl ?_
  refine Rn.iadd (pc' := 949) rfl rfl ?_
  refine Rn.iald (pc' := 950) rfl hs2 (vpk h7 hL (k := 1) (by omega) rfl) rfl ?_
  refine Rn.step (pc' := 951) rfl rfl ?_
  refine Rn.step (pc' := 952) rfl rfl ?_
  refine Rn.iconst (v := 2) (pc' := 953) rfl (by decide) rfl ?_
  refine Rn.iadd (pc' := 954) rfl rfl ?_
  refine Rn.iald (pc' := 955) rfl hs2 (vpk h7 hL (k := 2) (by omega) rfl) rfl ?_
  refine Rn.step (pc' := 956) rfl rfl ?_
  refine Rn.step (pc' := 957) rfl rfl ?_
  refine Rn.iconst (v := 3) (pc' := 958) rfl (by decide) rfl ?_
  refine Rn.iadd (pc' := 959) rfl rfl ?_
  refine Rn.iald (pc' := 960) rfl hs2 (vpk h7 hL (k := 3) (by omega) rfl) rfl ?_
  refine Rn.step (pc' := 961) rfl rfl ?_
  refine Rn.step (pc' := 962) rfl rfl ?_
  refine Rn.iconst (v := 4) (pc' := 963) rfl (by decide) rfl ?_
  refine Rn.iadd (pc' := 964) rfl rfl ?_
  refine Rn.iald (pc' := 965) rfl hs2 (vpk h7 hL (k := 4) (by omega) rfl) rfl ?_
  refine Rn.callV (pc' := 968) rfl (by decide) (by omega) rfl (rcvA hm50 rfl) rfl hc2 (fun r_ m_ hc_ => ?_)
  obtain ⟨rfl, hinv⟩ := hc_
  exact Rn.icmp_eq (pc1 := 1042) (pc2 := 971) rfl rfl rfl (fun _ => kk _ hinv) (fun hne => absurd rfl hne)
set_option maxRecDepth 30000 in
theorem l_case25 (hL : Ls ≤ 3584) (h7 : 7 * N + 7 ≤ Ls) (hi : INV N sc Ls M) (kk : ∀ m2, INV (N + 1) sc Ls m2 → Rn 60 j_L_law 1042 [.ref (xS + 60), .ref 0, .ref 50, .int (nI (7 * N))] [] m2 Q) : Rn 60 j_L_law 973 [.ref (xS + 60), .ref 0, .ref 50, .int (nI (7 * N))] [] M Q := by
  obtain ⟨⟨_, hs⟩, ⟨fs, hO⟩, _⟩ := hi.ok
  have hN : N ≤ 550 := by omega
  refine Rn.step (pc' := 974) rfl rfl ?_
  refine Rn.step (pc' := 975) rfl rfl ?_
  refine Rn.step (pc' := 976) rfl rfl ?_
  refine Rn.iconst (v := 1) (pc' := 977) rfl (by decide) rfl ?_
  refine Rn.iadd (pc' := 978) rfl rfl ?_
  refine Rn.iald (pc' := 979) rfl hs (vpk h7 hL (k := 1) (by omega) rfl) rfl ?_
  refine Rn.callV (pc' := 982) rfl (by decide) (by omega) rfl (rcvA hO rfl) rfl (b_count hi hN (sc (nI (7 * N) + 1).toNatClampNeg)) (fun r_ m_ hc_ => ?_)
  obtain ⟨y, rfl, ⟨⟨fs2, hm50⟩, hs2⟩, hc2⟩ := hc_
  refine Rn.step (pc' := 983) rfl rfl ?_
  refine Rn.step (pc' := 984) rfl rfl ?_
  refine Rn.step (pc' := 985) rfl rfl ?_
  refine Rn.iconst (v := 1) (pc' := 986) rfl (by decide) rfl ?_
  refine Rn.iadd (pc' := 987) rfl rfl ?_
  refine Rn.iald (pc' := 988) rfl hs2 (vpk h7 hL (k := 1) (by omega) rfl) rfl ?_
  refine Rn.callV (pc' := 991) rfl (by decide) (by omega) rfl (rcvA hm50 rfl) rfl hc2 (fun r_ m_ hc_ => ?_)
  obtain ⟨rfl, hinv⟩ := hc_
  exact Rn.icmp_eq (pc1 := 1042) (pc2 := 994) rfl rfl rfl (fun _ => kk _ hinv) (fun hne => absurd rfl hne)
set_option maxRecDepth 30000 in
theorem l_case26 (hL : Ls ≤ 3584) (h7 : 7 * N + 7 ≤ Ls) (hi : INV N sc Ls M) (kk : ∀ m2, INV (N + 1) sc Ls m2 → Rn 60 j_L_law 1042 [.ref (xS + 60), .ref 0, .ref 50, .int (nI (7 * N))] [] m2 Q) : Rn 60 j_L_law 996 [.ref (xS + 60), .ref 0, .ref 50, .int (nI (7 * N))] [] M Q := by
  obtain ⟨⟨_, hs⟩, ⟨fs, hO⟩, _⟩ := hi.ok
  have hN : N ≤ 550 := by omega
  refine Rn.step (pc' := 997) rfl rfl ?_
  refine Rn.step (pc' := 998) rfl rfl ?_
  refine Rn.step (pc' := 999) rfl rfl ?_
  refine Rn.iconst (v := 1) (pc' := 1000) rfl (by decide) rfl ?_
  refine Rn.iadd (pc' := 1001) rfl rfl ?_
  refine Rn.iald (pc' := 1002) rfl hs (vpk h7 hL (k := 1) (by omega) rfl) rfl ?_
  refine Rn.callV (pc' := 1005) rfl (by decide) (by omega) rfl (rcvA hO rfl) rfl (b_image hi hN (sc (nI (7 * N) + 1).toNatClampNeg)) (fun r_ m_ hc_ => ?_)
  obtain ⟨y, rfl, ⟨⟨fs2, hm50⟩, hs2⟩, hc2⟩ := hc_
  refine Rn.step (pc' := 1006) rfl rfl ?_
  refine Rn.step (pc' := 1007) rfl rfl ?_
  refine Rn.step (pc' := 1008) rfl rfl ?_
  refine Rn.iconst (v := 1) (pc' := 1009) rfl (by decide) rfl ?_
  refine Rn.iadd (pc' := 1010) rfl rfl ?_
  refine Rn.iald (pc' := 1011) rfl hs2 (vpk h7 hL (k := 1) (by omega) rfl) rfl ?_
  refine Rn.callV (pc' := 1014) rfl (by decide) (by omega) rfl (rcvA hm50 rfl) rfl hc2 (fun r_ m_ hc_ => ?_)
  obtain ⟨rfl, hinv⟩ := hc_
  exact Rn.icmp_eq (pc1 := 1042) (pc2 := 1017) rfl rfl rfl (fun _ => kk _ hinv) (fun hne => absurd rfl hne)
set_option maxRecDepth 30000 in
theorem l_case27 (hL : Ls ≤ 3584) (h7 : 7 * N + 7 ≤ Ls) (hi : INV N sc Ls M) (kk : ∀ m2, INV (N + 1) sc Ls m2 → Rn 60 j_L_law 1042 [.ref (xS + 60), .ref 0, .ref 50, .int (nI (7 * N))] [] m2 Q) : Rn 60 j_L_law 1019 [.ref (xS + 60), .ref 0, .ref 50, .int (nI (7 * N))] [] M Q := by
  obtain ⟨⟨_, hs⟩, ⟨fs, hO⟩, _⟩ := hi.ok
  have hN : N ≤ 550 := by omega
  refine Rn.step (pc' := 1020) rfl rfl ?_
  refine Rn.step (pc' := 1021) rfl rfl ?_
  refine Rn.step (pc' := 1022) rfl rfl ?_
  refine Rn.iconst (v := 1) (pc' := 1023) rfl (by decide) rfl ?_
  refine Rn.iadd (pc' := 1024) rfl rfl ?_
  refine Rn.iald (pc' := 1025) rfl hs (vpk h7 hL (k := 1) (by omega) rfl) rfl ?_
  refine Rn.callV (pc' := 1028) rfl (by decide) (by omega) rfl (rcvA hO rfl) rfl (b_back hi hN (sc (nI (7 * N) + 1).toNatClampNeg)) (fun r_ m_ hc_ => ?_)
  obtain ⟨y, rfl, ⟨⟨fs2, hm50⟩, hs2⟩, hc2⟩ := hc_
  refine Rn.step (pc' := 1029) rfl rfl ?_
  refine Rn.step (pc' := 1030) rfl rfl ?_
  refine Rn.step (pc' := 1031) rfl rfl ?_
  refine Rn.iconst (v := 1) (pc' := 1032) rfl (by decide) rfl ?_
  refine Rn.iadd (pc' := 1033) rfl rfl ?_
  refine Rn.iald (pc' := 1034) rfl hs2 (vpk h7 hL (k := 1) (by omega) rfl) rfl ?_
  refine Rn.callV (pc' := 1037) rfl (by decide) (by omega) rfl (rcvA hm50 rfl) rfl hc2 (fun r_ m_ hc_ => ?_)
  obtain ⟨rfl, hinv⟩ := hc_
  exact Rn.icmp_eq (pc1 := 1042) (pc2 := 1040) rfl rfl rfl (fun _ => kk _ hinv) (fun hne => absurd rfl hne)
set_option maxRecDepth 30000 in
theorem l_law (hL : Ls ≤ 3584) (N : Nat) (hN : 7 * N ≤ Ls) (M : xM) (h : INV N sc Ls M) : Rn 60 j_L_law 18 [.ref (xS + 60), .ref 0, .ref 50, .int (nI (7 * N))] [] M (fun o m => o = some (.int 1) ∧ m.1 ≤ 1000 ∧ m.2.1 ≤ 20000) := by
  obtain ⟨⟨_, hs⟩, _, hb1, hb2⟩ := h.ok
  refine Rn.step (pc' := 19) rfl rfl ?_
  refine Rn.step (pc' := 20) rfl rfl ?_
  refine Rn.alen (pc' := 21) rfl hs (by decide) rfl ?_
  refine Rn.iconst (v := 7) (pc' := 23) rfl (by decide) rfl ?_
  refine Rn.isub (pc' := 24) rfl rfl ?_
  refine Rn.icmp_gt (pc1 := 1048) (pc2 := 27) rfl rfl rfl (fun h24 => ?_) (fun h24 => ?_)
  · refine Rn.iconst (v := 1) (pc' := 1049) rfl (by decide) rfl ?_
    exact Rn.iret rfl rfl ⟨rfl, hb1, hb2⟩
  · have h24n : ¬ nI Ls - 7 < nI (7 * N) := h24
    clear h24
    have h7 : 7 * N + 7 ≤ Ls := by
      by_cases h8 : 7 ≤ Ls
      · have e : nI Ls - 7 = nI (Ls - 7) := nI_subw (a := Ls) (b := 7) h8
        have h24' : ¬ nI (Ls - 7) < nI (7 * N) := by rw [← e]; exact h24n
        have := mt (nI_ltI (a := Ls - 7) (b := 7 * N) (by omega) (by omega)).mpr h24'
        omega
      · exfalso
        have hN0 : N = 0 := by omega
        subst hN0
        obtain rfl | rfl | rfl | rfl | rfl | rfl | rfl : Ls = 0 ∨ Ls = 1 ∨ Ls = 2 ∨ Ls = 3 ∨ Ls = 4 ∨ Ls = 5 ∨ Ls = 6 := by omega
        all_goals exact h24n (by decide)
    have kk : ∀ m2, INV (N + 1) sc Ls m2 → Rn 60 j_L_law 1042 [.ref (xS + 60), .ref 0, .ref 50, .int (nI (7 * N))] [] m2 (fun o m => o = some (.int 1) ∧ m.1 ≤ 1000 ∧ m.2.1 ≤ 20000) := fun m2 h2 => by
      refine Rn.step (pc' := 1045) rfl rfl ?_
      refine Rn.step (pc' := 18) rfl rfl ?_
      refine Rn.ls4 rfl rfl rfl (congrArg Value.int (show nI (7 * N) + Int32.ofInt 7 = nI (7 * (N + 1)) from nI_add (7 * N) 7)) ?_
      exact l_law hL (N + 1) (by omega) m2 h2
    refine Rn.step (pc' := 28) rfl rfl ?_
    refine Rn.step (pc' := 29) rfl rfl ?_
    refine Rn.iald (pc' := 30) rfl hs (vp_in_nI (by omega) (by omega)) rfl ?_
    refine Rn.iconst (v := 31) (pc' := 32) rfl (by decide) rfl ?_
    refine Rn.iand (pc' := 33) rfl rfl ?_
    rcases sw_cases (sc (nI (7 * N)).toNatClampNeg &&& 31) 27 (by omega) with h33 | ⟨k, hk, e⟩
    · exact Rn.tsd (pc1 := 1042) rfl h33 rfl (kk M h.nxt)
    · rw [e]
      match k, hk with
      | 0, _ => exact Rn.tsw (pc1 := 160) rfl (by decide) rfl rfl (l_case0 hL h7 h kk)
      | 1, _ => exact Rn.tsw (pc1 := 223) rfl (by decide) rfl rfl (l_case1 hL h7 h kk)
      | 2, _ => exact Rn.tsw (pc1 := 246) rfl (by decide) rfl rfl (l_case2 hL h7 h kk)
      | 3, _ => exact Rn.tsw (pc1 := 259) rfl (by decide) rfl rfl (l_case3 hL h7 h kk)
      | 4, _ => exact Rn.tsw (pc1 := 272) rfl (by decide) rfl rfl (l_case4 hL h7 h kk)
      | 5, _ => exact Rn.tsw (pc1 := 295) rfl (by decide) rfl rfl (l_case5 hL h7 h kk)
      | 6, _ => exact Rn.tsw (pc1 := 328) rfl (by decide) rfl rfl (l_case6 hL h7 h kk)
      | 7, _ => exact Rn.tsw (pc1 := 361) rfl (by decide) rfl rfl (l_case7 hL h7 h kk)
      | 8, _ => exact Rn.tsw (pc1 := 384) rfl (by decide) rfl rfl (l_case8 hL h7 h kk)
      | 9, _ => exact Rn.tsw (pc1 := 397) rfl (by decide) rfl rfl (l_case9 hL h7 h kk)
      | 10, _ => exact Rn.tsw (pc1 := 430) rfl (by decide) rfl rfl (l_case10 hL h7 h kk)
      | 11, _ => exact Rn.tsw (pc1 := 453) rfl (by decide) rfl rfl (l_case11 hL h7 h kk)
      | 12, _ => exact Rn.tsw (pc1 := 476) rfl (by decide) rfl rfl (l_case12 hL h7 h kk)
      | 13, _ => exact Rn.tsw (pc1 := 489) rfl (by decide) rfl rfl (l_case13 hL h7 h kk)
      | 14, _ => exact Rn.tsw (pc1 := 532) rfl (by decide) rfl rfl (l_case14 hL h7 h kk)
      | 15, _ => exact Rn.tsw (pc1 := 565) rfl (by decide) rfl rfl (l_case15 hL h7 h kk)
      | 16, _ => exact Rn.tsw (pc1 := 598) rfl (by decide) rfl rfl (l_case16 hL h7 h kk)
      | 17, _ => exact Rn.tsw (pc1 := 621) rfl (by decide) rfl rfl (l_case17 hL h7 h kk)
      | 18, _ => exact Rn.tsw (pc1 := 654) rfl (by decide) rfl rfl (l_case18 hL h7 h kk)
      | 19, _ => exact Rn.tsw (pc1 := 723) rfl (by decide) rfl rfl (l_case19 hL h7 h kk)
      | 20, _ => exact Rn.tsw (pc1 := 746) rfl (by decide) rfl rfl (l_case20 hL h7 h kk)
      | 21, _ => exact Rn.tsw (pc1 := 779) rfl (by decide) rfl rfl (l_case21 hL h7 h kk)
      | 22, _ => exact Rn.tsw (pc1 := 854) rfl (by decide) rfl rfl (l_case22 hL h7 h kk)
      | 23, _ => exact Rn.tsw (pc1 := 897) rfl (by decide) rfl rfl (l_case23 hL h7 h kk)
      | 24, _ => exact Rn.tsw (pc1 := 920) rfl (by decide) rfl rfl (l_case24 hL h7 h kk)
      | 25, _ => exact Rn.tsw (pc1 := 973) rfl (by decide) rfl rfl (l_case25 hL h7 h kk)
      | 26, _ => exact Rn.tsw (pc1 := 996) rfl (by decide) rfl rfl (l_case26 hL h7 h kk)
      | 27, _ => exact Rn.tsw (pc1 := 1019) rfl (by decide) rfl rfl (l_case27 hL h7 h kk)
      | k + 28, hh => exact absurd hh (by omega)
termination_by Ls + 7 - 7 * N
decreasing_by omega
end NW2
