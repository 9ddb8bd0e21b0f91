-- EACH CALL, ON BOTH SIDES
section BO
variable {xs : Nat → Int32} {L d y y2 tg r fed n : Nat} {h h' : am_H} {s : Nat → Int32} {tv rd : Value} {wd : Int64} {lg : Nat → Int64} {g mi tr fl pl w x x2 x3 : Int32} {dy : Nat} {τ : lt_T} {td : Bool} {f : Nat → Int32} {p m : pq} {av : List Value}
theorem boi {V V2 : vT} {A : Int32} (c : clV V y av (.int A) V2) (k : mlV V y2 av (.int A) V2) (hV : vO V2) : boI V y y2 av := ⟨A, V2, hV, c, k⟩
theorem boj {V V2 : vT} {A : Int64} (c : clV V y av (.long A) V2) (k : mlV V y2 av (.long A) V2) (hV : vO V2) : boJ V y y2 av := ⟨A, V2, hV, c, k⟩
theorem s61 (e : s 6 = (if true = true then (1 : Int32) else 0)) : s 6 = 1 := e
theorem s60 (e : s 6 = (if false = true then (1 : Int32) else 0)) : s 6 = 0 := e
theorem s6i (e : s 6 = (if td = true then (1 : Int32) else 0)) : s 6 = 1 ↔ td = true := by
  cases td with
  | true => exact ⟨fun _ => rfl, fun _ => e⟩
  | false =>
    refine ⟨fun q => ?_, fun q => nomatch q⟩
    rw [show s 6 = 0 from e] at q
    exact absurd q (by decide)
theorem w_eq (e : s 6 = (if td = true then (1 : Int32) else 0)) : (if s 6 = 0 then (1 : Int32) else 2) = if td = true then 2 else 1 := by
  cases td with
  | true => rw [show s 6 = 1 from e]; rfl
  | false => rw [show s 6 = 0 from e]; rfl
theorem w_4 : (if td = true then (2 : Int32) else 1) ≠ 4 := by cases td <;> decide
theorem w_p4 {c : Prop} [Decidable c] : (if c then (2 : Int32) else 1) ≠ 4 := by split <;> decide
theorem w_if {α : Type} {c : Prop} [Decidable c] {a b : α} (e : s 6 = (if td = true then (1 : Int32) else 0)) : (if s 6 = 1 ∧ c then a else b) = if td = true ∧ c then a else b := by simp only [s6i e]
theorem nI_ofl {x : Int32} {n : Nat} (h0 : 0 ≤ x) (h1 : x ≤ nI n) (hn : n + 1 < 2 ^ 31) : ∃ k, k ≤ n ∧ x = nI k := by
  obtain ⟨k, hk, e⟩ := nI_ofx (n := n + 1) h0 (by rw [fa_lt, nI_toInt hn]; rw [fa_le, nI_toInt (by omega)] at h1; omega) hn
  exact ⟨k, by omega, e⟩
theorem nI_of1 {x : Int32} {n : Nat} (h0 : 1 ≤ x) (h1 : x ≤ nI n) (hn : n + 1 < 2 ^ 31) : ∃ k, (1 ≤ k ∧ k ≤ n) ∧ x = nI k := by
  obtain ⟨k, hk, e⟩ := nI_ofl (x := x) (n := n) (by rw [fa_le] at h0 ⊢; have e1 : (1 : Int32).toInt = 1 := rfl; have e0 : (0 : Int32).toInt = 0 := rfl; omega) h1 hn
  refine ⟨k, ⟨?_, hk⟩, e⟩
  rw [e, fa_le, nI_toInt (by omega)] at h0
  have e1 : (1 : Int32).toInt = 1 := rfl
  omega
theorem q_sayingO (O : mO h s tv rd wd lg td g mi dy τ) (hx : ¬ (td = true ∧ 0 ≤ x ∧ x < nI (τ.1 2))) : am_mi xs L (d + 2) 226 [.ref 58, .int x] h (mR h s tv rd wd lg (-1) 1) := by
  cases td with
  | true =>
    obtain ⟨r, rfl, M⟩ := O.2.1 rfl
    exact q_saying0 M (fun z => hx ⟨rfl, z⟩)
  | false =>
    obtain rfl := O.2.2 rfl
    exact q_sayingN O.1
theorem q_dumbInO (O : mO h s tv rd wd lg td g mi dy τ) (hx : ¬ (td = true ∧ 0 ≤ x ∧ x < nI (τ.1 2))) : am_mi xs L (d + 2) 230 [.ref 58, .int x] h (mR h s tv rd wd lg (-1) 1) := by
  cases td with
  | true =>
    obtain ⟨r, rfl, M⟩ := O.2.1 rfl
    exact q_dumbIn0 M (fun z => hx ⟨rfl, z⟩)
  | false =>
    obtain rfl := O.2.2 rfl
    exact q_dumbInN O.1
theorem b_gone (hV : vO (td, fed, (tr, fl, pl), f, (g, mi, dy), τ, p, m)) : boI (td, fed, (tr, fl, pl), f, (g, mi, dy), τ, p, m) 10 213 [] := by
  cases td with
  | true => exact boi (cl_R (fun W e6 _ => vi (c_gone W.1 (s61 e6)))) (ml_R (by decide) (fun O _ _ => by obtain ⟨r, rfl, M⟩ := O.2.1 rfl; exact vi (q_gone M))) hV
  | false => exact boi (cl_R (w := 1) (fun W e6 _ => vi (c_gone0 W.1 (s60 e6)))) (ml_R (by decide) (fun O _ _ => vi (q_gone0 O rfl))) hV
theorem b_said (hV : vO (td, fed, (tr, fl, pl), f, (g, mi, dy), τ, p, m)) : boI (td, fed, (tr, fl, pl), f, (g, mi, dy), τ, p, m) 21 233 [] := by
  cases td with
  | true => exact boi (cl_R (fun W e6 _ => vi (c_said W.1 (s61 e6)))) (ml_R (by decide) (fun O _ _ => by obtain ⟨r, rfl, M⟩ := O.2.1 rfl; exact vi (q_said M))) hV
  | false => exact boi (cl_R (w := 1) (fun W e6 _ => vi (c_said0 W.1 (s60 e6)))) (ml_R (by decide) (fun O _ _ => vi (q_said0 O rfl))) hV
theorem b_longest (hV : vO (td, fed, (tr, fl, pl), f, (g, mi, dy), τ, p, m)) : boI (td, fed, (tr, fl, pl), f, (g, mi, dy), τ, p, m) 22 234 [] := by
  cases td with
  | true => exact boi (cl_R (fun W e6 _ => vi (c_longest W.1 (s61 e6)))) (ml_R (by decide) (fun O _ _ => by obtain ⟨r, rfl, M⟩ := O.2.1 rfl; exact vi (q_longest M))) hV
  | false => exact boi (cl_R (w := 1) (fun W e6 _ => vi (c_longest0 W.1 (s60 e6)))) (ml_R (by decide) (fun O _ _ => vi (q_longest0 O rfl))) hV
theorem b_longestSaying (hV : vO (td, fed, (tr, fl, pl), f, (g, mi, dy), τ, p, m)) : boI (td, fed, (tr, fl, pl), f, (g, mi, dy), τ, p, m) 31 229 [] := by
  cases td with
  | true => exact boi (cl_R (fun W e6 _ => vi (c_longestSaying W.1 (s61 e6)))) (ml_R (by decide) (fun O _ _ => by obtain ⟨r, rfl, M⟩ := O.2.1 rfl; exact vi (q_longestSaying M))) hV
  | false => exact boi (cl_R (w := 1) (fun W e6 _ => vi (c_longestSaying0 W.1 (s60 e6)))) (ml_R (by decide) (fun O _ _ => vi (q_longestSaying0 O rfl))) hV
theorem b_which (hV : vO (td, fed, (tr, fl, pl), f, (g, mi, dy), τ, p, m)) : boI (td, fed, (tr, fl, pl), f, (g, mi, dy), τ, p, m) 34 242 [] := by
  cases td with
  | true => exact boi (cl_R (fun W e6 _ => vi (c_which W.1 (s61 e6)))) (ml_R (by decide) (fun O _ _ => by obtain ⟨r, rfl, M⟩ := O.2.1 rfl; exact vi (q_which M))) hV
  | false => exact boi (cl_R (w := 1) (fun W e6 _ => vi (c_which0 W.1 (s60 e6)))) (ml_R (by decide) (fun O _ _ => vi (q_which0 O rfl))) hV
theorem b_bill (hV : vO (td, fed, (tr, fl, pl), f, (g, mi, dy), τ, p, m)) : boI (td, fed, (tr, fl, pl), f, (g, mi, dy), τ, p, m) 35 245 [] := by
  cases td with
  | true => exact boi (cl_R (fun W e6 _ => vi (c_bill W.1 (s61 e6)))) (ml_Y (fun M _ _ _ => am_m_mono (vi (q_bill M)) (fun v h2 ⟨e, k⟩ => ⟨e, _, Or.inl rfl, k⟩))) hV
  | false => exact boi (cl_R (w := 1) (fun W e6 _ => vi (c_bill0 W.1 (s60 e6)))) (ml_R (by decide) (fun O _ _ => vi (q_bill0 O rfl))) hV
theorem b_billLeaves (hV : vO (td, fed, (tr, fl, pl), f, (g, mi, dy), τ, p, m)) : boI (td, fed, (tr, fl, pl), f, (g, mi, dy), τ, p, m) 36 247 [] := by
  cases td with
  | true => exact boi (cl_R (fun W e6 _ => vi (c_billLeaves W.1 (s61 e6)))) (ml_Y (fun M _ _ _ => am_m_mono (vi (q_billLeaves M)) (fun v h2 ⟨e, k⟩ => ⟨e, _, Or.inl rfl, k⟩))) hV
  | false => exact boi (cl_R (w := 1) (fun W e6 _ => vi (c_billLeaves0 W.1 (s60 e6)))) (ml_R (by decide) (fun O _ _ => vi (q_billLeaves0 O rfl))) hV
theorem b_worst (hV : vO (td, fed, (tr, fl, pl), f, (g, mi, dy), τ, p, m)) : boI (td, fed, (tr, fl, pl), f, (g, mi, dy), τ, p, m) 38 249 [] := by
  cases td with
  | true => exact boi (cl_R (fun W e6 _ => vi (c_worst W.1 (s61 e6)))) (ml_R (by decide) (fun O _ _ => by obtain ⟨r, rfl, M⟩ := O.2.1 rfl; exact vi (q_worst M))) hV
  | false => exact boi (cl_R (w := 1) (fun W e6 _ => vi (c_worst0 W.1 (s60 e6)))) (ml_R (by decide) (fun O _ _ => vi (q_worst0 O rfl))) hV
theorem b_kindest (hV : vO (td, fed, (tr, fl, pl), f, (g, mi, dy), τ, p, m)) : boI (td, fed, (tr, fl, pl), f, (g, mi, dy), τ, p, m) 39 251 [] := by
  cases td with
  | true => exact boi (cl_R (fun W e6 _ => vi (c_kindest W.1 (s61 e6)))) (ml_R (by decide) (fun O _ _ => by obtain ⟨r, rfl, M⟩ := O.2.1 rfl; exact vi (q_kindest M))) hV
  | false => exact boi (cl_R (w := 1) (fun W e6 _ => vi (c_kindest0 W.1 (s60 e6)))) (ml_R (by decide) (fun O _ _ => vi (q_kindest0 O rfl))) hV
theorem b_dumb (hV : vO (td, fed, (tr, fl, pl), f, (g, mi, dy), τ, p, m)) : boI (td, fed, (tr, fl, pl), f, (g, mi, dy), τ, p, m) 40 252 [] := by
  cases td with
  | true => exact boi (cl_R (fun W e6 _ => vi (c_dumb W.1 (s61 e6)))) (ml_Y (fun M ⟨f0, a⟩ _ _ => am_m_mono (vi (q_dumb M a)) (fun v h2 ⟨e, f, k⟩ => ⟨e, _, Or.inr (Or.inl ⟨f, rfl⟩), by rw [k]; exact mY_gs⟩))) hV
  | false => exact boi (cl_R (w := 1) (fun W e6 _ => vi (c_dumb0 W.1 (s60 e6)))) (ml_R (by decide) (fun O _ _ => vi (q_dumb0 O rfl))) hV
theorem b_again (hV : vO (td, fed, (tr, fl, pl), f, (g, mi, dy), τ, p, m)) : boI (td, fed, (tr, fl, pl), f, (g, mi, dy), τ, p, m) 42 257 [] := by
  cases td with
  | true => exact boi (cl_R (fun W e6 _ => vi (c_again W.1 (s61 e6)))) (ml_R (by decide) (fun O _ _ => by obtain ⟨r, rfl, M⟩ := O.2.1 rfl; exact vi (q_again M))) hV
  | false => exact boi (cl_R (w := 1) (fun W e6 _ => vi (c_again0 W.1 (s60 e6)))) (ml_R (by decide) (fun O _ _ => vi (q_again0 O rfl))) hV
theorem b_rarest (hV : vO (td, fed, (tr, fl, pl), f, (g, mi, dy), τ, p, m)) : boI (td, fed, (tr, fl, pl), f, (g, mi, dy), τ, p, m) 43 258 [] := by
  cases td with
  | true => exact boi (cl_R (fun W e6 _ => vi (c_rarest W.1 (s61 e6)))) (ml_R (by decide) (fun O _ _ => by obtain ⟨r, rfl, M⟩ := O.2.1 rfl; exact vi (q_rarest M))) hV
  | false => exact boi (cl_R (w := 1) (fun W e6 _ => vi (c_rarest0 W.1 (s60 e6)))) (ml_R (by decide) (fun O _ _ => vi (q_rarest0 O rfl))) hV
theorem b_stoodOut (hV : vO (td, fed, (tr, fl, pl), f, (g, mi, dy), τ, p, m)) : boI (td, fed, (tr, fl, pl), f, (g, mi, dy), τ, p, m) 46 264 [] := by
  cases td with
  | true => exact boi (cl_R (fun W e6 _ => vi (c_stoodOut W.1 (s61 e6)))) (ml_R (by decide) (fun O _ _ => by obtain ⟨r, rfl, M⟩ := O.2.1 rfl; exact vi (q_stoodOut M))) hV
  | false => exact boi (cl_R (w := 1) (fun W e6 _ => vi (c_stoodOut0 W.1 (s60 e6)))) (ml_R (by decide) (fun O _ _ => vi (q_stoodOut0 O rfl))) hV
theorem b_opening (hV : vO (td, fed, (tr, fl, pl), f, (g, mi, dy), τ, p, m)) : boI (td, fed, (tr, fl, pl), f, (g, mi, dy), τ, p, m) 50 274 [] := by
  cases td with
  | true => exact boi (cl_G (fun W e6 => vi (c_opening W.1 W.2.1 (s61 e6)))) (ml_Y (fun M _ ⟨f0, a⟩ _ => am_m_mono (vi (q_opening M a)) (fun v h2 ⟨e, f, k⟩ => ⟨e, _, Or.inr (Or.inr (Or.inl ⟨f, rfl⟩)), by rw [k]; exact mY_gs⟩))) hV
  | false => exact boi (cl_R (w := 1) (fun W e6 _ => vi (c_opening0 W.1 (s60 e6)))) (ml_R (by decide) (fun O _ _ => vi (q_opening0 O rfl))) hV
theorem b_longestChain (hV : vO (td, fed, (tr, fl, pl), f, (g, mi, dy), τ, p, m)) : boI (td, fed, (tr, fl, pl), f, (g, mi, dy), τ, p, m) 52 277 [] := by
  cases td with
  | true => exact boi (cl_G (fun W e6 => vi (c_longestChain W.1 W.2.1 (s61 e6)))) (ml_Y (fun M _ _ ⟨f0, a⟩ => am_m_mono (vi (q_longestChain M a)) (fun v h2 ⟨e, f, k⟩ => ⟨e, _, Or.inr (Or.inr (Or.inr ⟨f, rfl⟩)), by rw [k]; exact mY_gs⟩))) hV
  | false => exact boi (cl_R (w := 1) (fun W e6 _ => vi (c_longestChain0 W.1 (s60 e6)))) (ml_R (by decide) (fun O _ _ => vi (q_longestChain0 O rfl))) hV
theorem b_users (hV : vO (td, fed, (tr, fl, pl), f, (g, mi, dy), τ, p, m)) : boI (td, fed, (tr, fl, pl), f, (g, mi, dy), τ, p, m) 23 235 [.int x] := by
  by_cases q : td = true ∧ 0 ≤ x ∧ x < 26
  · obtain ⟨rfl, q1, q2⟩ := q
    obtain ⟨c, hc, rfl⟩ := nI_ofx (n := 26) q1 q2 (by decide)
    exact boi (cl_R (fun W e6 _ => vi (c_users W.1 (s61 e6) hc))) (ml_R (by decide) (fun O _ _ => by obtain ⟨r, rfl, M⟩ := O.2.1 rfl; exact vi (q_users M hc))) hV
  · exact boi (cl_R (w := if td = true then 2 else 1) (fun W e6 _ => by rw [← w_eq e6]; exact vi (c_users0 W.1 (fun z => q ⟨(s6i e6).mp z.1, z.2⟩)))) (ml_R w_4 (fun O _ _ => vi (q_users0 O q))) hV
theorem b_saidIf (hV : vO (td, fed, (tr, fl, pl), f, (g, mi, dy), τ, p, m)) : boI (td, fed, (tr, fl, pl), f, (g, mi, dy), τ, p, m) 26 237 [.int x] := by
  by_cases q : td = true ∧ 0 ≤ x ∧ x < 26
  · obtain ⟨rfl, q1, q2⟩ := q
    obtain ⟨c, hc, rfl⟩ := nI_ofx (n := 26) q1 q2 (by decide)
    exact boi (cl_R (fun W e6 _ => vi (c_saidIf W.1 (s61 e6) hc))) (ml_R (by decide) (fun O _ _ => by obtain ⟨r, rfl, M⟩ := O.2.1 rfl; exact vi (q_saidIf M hc))) hV
  · exact boi (cl_R (w := if td = true then 2 else 1) (fun W e6 _ => by rw [← w_eq e6]; exact vi (c_saidIf0 W.1 (fun z => q ⟨(s6i e6).mp z.1, z.2⟩)))) (ml_R w_4 (fun O _ _ => vi (q_saidIf0 O q))) hV
theorem b_judge (hV : vO (td, fed, (tr, fl, pl), f, (g, mi, dy), τ, p, m)) : boI (td, fed, (tr, fl, pl), f, (g, mi, dy), τ, p, m) 37 248 [.int x] := by
  by_cases q : td = true ∧ 0 ≤ x ∧ x < 26
  · obtain ⟨rfl, q1, q2⟩ := q
    obtain ⟨c, hc, rfl⟩ := nI_ofx (n := 26) q1 q2 (by decide)
    exact boi (cl_R (fun W e6 _ => vi (c_judge W.1 (s61 e6) hc))) (ml_R (by decide) (fun O _ _ => by obtain ⟨r, rfl, M⟩ := O.2.1 rfl; exact vi (q_judge M hc))) hV
  · exact boi (cl_R (w := if td = true then 2 else 1) (fun W e6 _ => by rw [← w_eq e6]; exact vi (c_judge0 W.1 (fun z => q ⟨(s6i e6).mp z.1, z.2⟩)))) (ml_R w_4 (fun O _ _ => vi (q_judge0 O q))) hV
theorem b_ways (hV : vO (td, fed, (tr, fl, pl), f, (g, mi, dy), τ, p, m)) : boI (td, fed, (tr, fl, pl), f, (g, mi, dy), τ, p, m) 45 262 [.int x] := by
  by_cases q : td = true ∧ 0 ≤ x ∧ x < 26
  · obtain ⟨rfl, q1, q2⟩ := q
    obtain ⟨c, hc, rfl⟩ := nI_ofx (n := 26) q1 q2 (by decide)
    exact boi (cl_R (fun W e6 _ => vi (c_ways W.1 (s61 e6) hc))) (ml_R (by decide) (fun O _ _ => by obtain ⟨r, rfl, M⟩ := O.2.1 rfl; exact vi (q_ways M hc))) hV
  · exact boi (cl_R (w := if td = true then 2 else 1) (fun W e6 _ => by rw [← w_eq e6]; exact vi (c_ways0 W.1 (fun z => q ⟨(s6i e6).mp z.1, z.2⟩)))) (ml_R w_4 (fun O _ _ => vi (q_ways0 O q))) hV
theorem b_twins (hV : vO (td, fed, (tr, fl, pl), f, (g, mi, dy), τ, p, m)) : boI (td, fed, (tr, fl, pl), f, (g, mi, dy), τ, p, m) 47 265 [.int x] := by
  by_cases q : td = true ∧ 0 ≤ x ∧ x < 26
  · obtain ⟨rfl, q1, q2⟩ := q
    obtain ⟨c, hc, rfl⟩ := nI_ofx (n := 26) q1 q2 (by decide)
    exact boi (cl_R (fun W e6 _ => vi (c_twins W.1 (s61 e6) hc))) (ml_R (by decide) (fun O _ _ => by obtain ⟨r, rfl, M⟩ := O.2.1 rfl; exact vi (q_twins M hc))) hV
  · exact boi (cl_R (w := if td = true then 2 else 1) (fun W e6 _ => by rw [← w_eq e6]; exact vi (c_twins0 W.1 (fun z => q ⟨(s6i e6).mp z.1, z.2⟩)))) (ml_R w_4 (fun O _ _ => vi (q_twins0 O q))) hV
theorem b_saying (hV : vO (td, fed, (tr, fl, pl), f, (g, mi, dy), τ, p, m)) : boI (td, fed, (tr, fl, pl), f, (g, mi, dy), τ, p, m) 18 226 [.int x] := by
  have b2 := hV.1.1.2.2.1
  by_cases q : td = true ∧ 0 ≤ x ∧ x < nI (τ.1 2)
  · obtain ⟨rfl, q1, q2⟩ := q
    obtain ⟨c, hc, rfl⟩ := nI_ofx q1 q2 (by omega)
    exact boi (cl_R (fun W e6 _ => vi (c_saying W.1 (s61 e6) hc))) (ml_R (by decide) (fun O _ _ => by obtain ⟨r, rfl, M⟩ := O.2.1 rfl; exact vi (q_saying M hc))) hV
  · exact boi (cl_R (w := 1) (fun W e6 _ => vi (c_saying0 W.1 (fun z => q ⟨(s6i e6).mp z.1, z.2⟩)))) (ml_R (by decide) (fun O _ _ => vi (q_sayingO O q))) hV
theorem b_dumbIn (hV : vO (td, fed, (tr, fl, pl), f, (g, mi, dy), τ, p, m)) : boI (td, fed, (tr, fl, pl), f, (g, mi, dy), τ, p, m) 20 230 [.int x] := by
  have b2 := hV.1.1.2.2.1
  by_cases q : td = true ∧ 0 ≤ x ∧ x < nI (τ.1 2)
  · obtain ⟨rfl, q1, q2⟩ := q
    obtain ⟨c, hc, rfl⟩ := nI_ofx q1 q2 (by omega)
    exact boi (cl_R (fun W e6 _ => vi (c_dumbIn W.1 (s61 e6) hc))) (ml_R (by decide) (fun O _ _ => by obtain ⟨r, rfl, M⟩ := O.2.1 rfl; exact vi (q_dumbIn M hc))) hV
  · exact boi (cl_R (w := 1) (fun W e6 _ => vi (c_dumbIn0 W.1 (fun z => q ⟨(s6i e6).mp z.1, z.2⟩)))) (ml_R (by decide) (fun O _ _ => vi (q_dumbInO O q))) hV
theorem b_lasts (hV : vO (td, fed, (tr, fl, pl), f, (g, mi, dy), τ, p, m)) : boI (td, fed, (tr, fl, pl), f, (g, mi, dy), τ, p, m) 28 238 [.int x] := by
  have b2 := hV.1.1.2.2.1
  by_cases q : td = true ∧ 0 ≤ x ∧ x < nI (τ.1 2)
  · obtain ⟨rfl, q1, q2⟩ := q
    obtain ⟨c, hc, rfl⟩ := nI_ofx q1 q2 (by omega)
    exact boi (cl_R (fun W e6 _ => vi (c_lasts W.1 (s61 e6) hc))) (ml_R (by decide) (fun O _ _ => by obtain ⟨r, rfl, M⟩ := O.2.1 rfl; exact vi (q_lasts M hc))) hV
  · exact boi (cl_R (w := 1) (fun W e6 _ => vi (c_lasts0 W.1 (fun z => q ⟨(s6i e6).mp z.1, z.2⟩)))) (ml_R (by decide) (fun O _ _ => vi (q_lasts0 O q))) hV
theorem b_hinges (hV : vO (td, fed, (tr, fl, pl), f, (g, mi, dy), τ, p, m)) : boI (td, fed, (tr, fl, pl), f, (g, mi, dy), τ, p, m) 41 256 [.int x] := by
  have b2 := hV.1.1.2.2.1
  by_cases q : td = true ∧ 0 ≤ x ∧ x < nI (τ.1 2)
  · obtain ⟨rfl, q1, q2⟩ := q
    obtain ⟨c, hc, rfl⟩ := nI_ofx q1 q2 (by omega)
    cases hd : lt_dp τ (lt_can τ g mi) c with
    | none => exact boi (cl_R (fun W e6 _ => vi (c_hinges W.1 (s61 e6) hc hd))) (ml_R (by decide) (fun O _ _ => by obtain ⟨r, rfl, M⟩ := O.2.1 rfl; exact vi (q_hinges M hc hd))) hV
    | some i => exact boi (cl_R (fun W e6 _ => vi (c_hinges5 W.1 (s61 e6) hc hd))) (ml_R (by decide) (fun O _ _ => by obtain ⟨r, rfl, M⟩ := O.2.1 rfl; exact vi (q_hinges5 M hc hd))) hV
  · exact boi (cl_R (w := 1) (fun W e6 _ => vi (c_hinges0 W.1 (fun z => q ⟨(s6i e6).mp z.1, z.2⟩)))) (ml_R (by decide) (fun O _ _ => vi (q_hinges0 O q))) hV
theorem b_wins (hV : vO (td, fed, (tr, fl, pl), f, (g, mi, dy), τ, p, m)) : boI (td, fed, (tr, fl, pl), f, (g, mi, dy), τ, p, m) 48 266 [.int x] := by
  have b3 := hV.1.1.2.2.2.1
  have b4 := hV.1.1.2.2.2.2.1
  have hn0 : lt_n τ = τ.1 3 + τ.1 4 := rfl
  by_cases q : (td = true ∧ 0 ≤ x ∧ x < nI (lt_n τ)) ∧ lt_can τ g mi x.toNatClampNeg = true
  · obtain ⟨⟨rfl, q1, q2⟩, hd⟩ := q
    obtain ⟨c, hc, rfl⟩ := nI_ofx q1 q2 (by omega)
    rw [nI_clamp (by omega)] at hd
    exact boi (cl_G (fun W e6 => vi (c_wins W.1 W.2.1 (s61 e6) hc hd))) (ml_Y (fun M _ ⟨f0, a⟩ _ => am_m_mono (vi (q_wins M a hc hd)) (fun v h2 ⟨e, f, k⟩ => ⟨e, _, Or.inr (Or.inr (Or.inl ⟨f, rfl⟩)), by rw [k]; exact mY_gs⟩))) hV
  · have h0 : (if td = true ∧ 0 ≤ x ∧ x < nI (lt_n τ) then (if lt_can τ g mi x.toNatClampNeg = true then (0 : Int32) else 5) else 1) ≠ 0 := by
      by_cases q1 : td = true ∧ 0 ≤ x ∧ x < nI (lt_n τ)
      · rw [if_pos q1, if_neg (fun q2 => q ⟨q1, q2⟩)]; decide
      · rw [if_neg q1]; decide
    have h4 : (if td = true ∧ 0 ≤ x ∧ x < nI (lt_n τ) then (if lt_can τ g mi x.toNatClampNeg = true then (0 : Int32) else 5) else 1) ≠ 4 := by
      by_cases q1 : td = true ∧ 0 ≤ x ∧ x < nI (lt_n τ)
      · rw [if_pos q1, if_neg (fun q2 => q ⟨q1, q2⟩)]; decide
      · rw [if_neg q1]; decide
    exact boi (cl_R (fun W e6 _ => vi (c_wins0 W.1 (w_if e6) h0))) (ml_R h4 (fun O _ _ => vi (q_wins0 O rfl h0))) hV
theorem b_answer (hV : vO (td, fed, (tr, fl, pl), f, (g, mi, dy), τ, p, m)) : boI (td, fed, (tr, fl, pl), f, (g, mi, dy), τ, p, m) 51 275 [.int x] := by
  have b3 := hV.1.1.2.2.2.1
  have b4 := hV.1.1.2.2.2.2.1
  have hn0 : lt_n τ = τ.1 3 + τ.1 4 := rfl
  by_cases q : (td = true ∧ 0 ≤ x ∧ x < nI (lt_n τ)) ∧ lt_can τ g mi x.toNatClampNeg = true
  · obtain ⟨⟨rfl, q1, q2⟩, hd⟩ := q
    obtain ⟨c, hc, rfl⟩ := nI_ofx q1 q2 (by omega)
    rw [nI_clamp (by omega)] at hd
    exact boi (cl_G (fun W e6 => vi (c_answer W.1 W.2.1 (s61 e6) hc hd))) (ml_Y (fun M _ ⟨f0, a⟩ _ => am_m_mono (vi (q_answer M a hc hd)) (fun v h2 ⟨e, f, k⟩ => ⟨e, _, Or.inr (Or.inr (Or.inl ⟨f, rfl⟩)), by rw [k]; exact mY_gs⟩))) hV
  · have h0 : (if td = true ∧ 0 ≤ x ∧ x < nI (lt_n τ) then (if lt_can τ g mi x.toNatClampNeg = true then (0 : Int32) else 5) else 1) ≠ 0 := by
      by_cases q1 : td = true ∧ 0 ≤ x ∧ x < nI (lt_n τ)
      · rw [if_pos q1, if_neg (fun q2 => q ⟨q1, q2⟩)]; decide
      · rw [if_neg q1]; decide
    have h4 : (if td = true ∧ 0 ≤ x ∧ x < nI (lt_n τ) then (if lt_can τ g mi x.toNatClampNeg = true then (0 : Int32) else 5) else 1) ≠ 4 := by
      by_cases q1 : td = true ∧ 0 ≤ x ∧ x < nI (lt_n τ)
      · rw [if_pos q1, if_neg (fun q2 => q ⟨q1, q2⟩)]; decide
      · rw [if_neg q1]; decide
    exact boi (cl_R (fun W e6 _ => vi (c_answer0 W.1 (w_if e6) h0))) (ml_R h4 (fun O _ _ => vi (q_answer0 O rfl h0))) hV
theorem b_answers (hV : vO (td, fed, (tr, fl, pl), f, (g, mi, dy), τ, p, m)) : boI (td, fed, (tr, fl, pl), f, (g, mi, dy), τ, p, m) 53 276 [.int x] := by
  have b3 := hV.1.1.2.2.2.1
  have b4 := hV.1.1.2.2.2.2.1
  have hn0 : lt_n τ = τ.1 3 + τ.1 4 := rfl
  by_cases q : (td = true ∧ 0 ≤ x ∧ x < nI (lt_n τ)) ∧ lt_can τ g mi x.toNatClampNeg = true
  · obtain ⟨⟨rfl, q1, q2⟩, hd⟩ := q
    obtain ⟨c, hc, rfl⟩ := nI_ofx q1 q2 (by omega)
    rw [nI_clamp (by omega)] at hd
    exact boi (cl_G (fun W e6 => vi (c_answers W.1 W.2.1 (s61 e6) hc hd))) (ml_R (by decide) (fun O _ _ => by obtain ⟨r, rfl, M⟩ := O.2.1 rfl; exact vi (q_answers M hc hd))) hV
  · have h0 : (if td = true ∧ 0 ≤ x ∧ x < nI (lt_n τ) then (if lt_can τ g mi x.toNatClampNeg = true then (0 : Int32) else 5) else 1) ≠ 0 := by
      by_cases q1 : td = true ∧ 0 ≤ x ∧ x < nI (lt_n τ)
      · rw [if_pos q1, if_neg (fun q2 => q ⟨q1, q2⟩)]; decide
      · rw [if_neg q1]; decide
    have h4 : (if td = true ∧ 0 ≤ x ∧ x < nI (lt_n τ) then (if lt_can τ g mi x.toNatClampNeg = true then (0 : Int32) else 5) else 1) ≠ 4 := by
      by_cases q1 : td = true ∧ 0 ≤ x ∧ x < nI (lt_n τ)
      · rw [if_pos q1, if_neg (fun q2 => q ⟨q1, q2⟩)]; decide
      · rw [if_neg q1]; decide
    exact boi (cl_R (fun W e6 _ => vi (c_answers0 W.1 (w_if e6) h0))) (ml_R h4 (fun O _ _ => vi (q_answers0 O rfl h0))) hV
theorem b_word (hV : vO (td, fed, (tr, fl, pl), f, (g, mi, dy), τ, p, m)) : boI (td, fed, (tr, fl, pl), f, (g, mi, dy), τ, p, m) 12 214 [.int x, .int x2] := by
  have b1 := hV.1.1.2.1
  have b3 := hV.1.1.2.2.2.1
  have b4 := hV.1.1.2.2.2.2.1
  have hn0 : lt_n τ = τ.1 3 + τ.1 4 := rfl
  by_cases q : td = true ∧ (0 ≤ x ∧ x < nI (lt_n τ)) ∧ 0 ≤ x2 ∧ x2 ≤ 4
  · obtain ⟨rfl, ⟨q1, q2⟩, q3, q4⟩ := q
    obtain ⟨c, hc, rfl⟩ := nI_ofx q1 q2 (by omega)
    obtain ⟨j, hj, rfl⟩ := nI_ofl (n := 4) q3 q4 (by decide)
    exact boi (cl_R (fun W e6 _ => vi (c_word W.1 (s61 e6) hc hj))) (ml_R (by decide) (fun O _ _ => by obtain ⟨r, rfl, M⟩ := O.2.1 rfl; exact vi (q_word M hc hj))) hV
  · exact boi (cl_R (w := 1) (fun W e6 _ => vi (c_word0 W.1 (fun z => q ⟨(s6i e6).mp z.1, z.2⟩)))) (ml_R (by decide) (fun O _ _ => vi (q_word0 O q))) hV
theorem b_thing (hV : vO (td, fed, (tr, fl, pl), f, (g, mi, dy), τ, p, m)) : boI (td, fed, (tr, fl, pl), f, (g, mi, dy), τ, p, m) 16 221 [.int x, .int x2] := by
  have b1 := hV.1.1.2.1
  have b3 := hV.1.1.2.2.2.1
  have b4 := hV.1.1.2.2.2.2.1
  have hn0 : lt_n τ = τ.1 3 + τ.1 4 := rfl
  by_cases q : td = true ∧ (0 ≤ x ∧ x < nI (τ.1 1)) ∧ 0 ≤ x2 ∧ x2 ≤ 3
  · obtain ⟨rfl, ⟨q1, q2⟩, q3, q4⟩ := q
    obtain ⟨c, hc, rfl⟩ := nI_ofx q1 q2 (by omega)
    obtain ⟨j, hj, rfl⟩ := nI_ofl (n := 3) q3 q4 (by decide)
    exact boi (cl_R (fun W e6 _ => vi (c_thing W.1 (s61 e6) hc hj))) (ml_R (by decide) (fun O _ _ => by obtain ⟨r, rfl, M⟩ := O.2.1 rfl; exact vi (q_thing M hc hj))) hV
  · exact boi (cl_R (w := 1) (fun W e6 _ => vi (c_thing0 W.1 (fun z => q ⟨(s6i e6).mp z.1, z.2⟩)))) (ml_R (by decide) (fun O _ _ => vi (q_thing0 O q))) hV
theorem b_lettersOf (hV : vO (td, fed, (tr, fl, pl), f, (g, mi, dy), τ, p, m)) : boI (td, fed, (tr, fl, pl), f, (g, mi, dy), τ, p, m) 32 240 [.int x] := by
  have b1 := hV.1.1.2.1
  by_cases q : td = true ∧ 0 ≤ x ∧ x < nI (τ.1 1)
  · obtain ⟨rfl, q1, q2⟩ := q
    obtain ⟨c, hc, rfl⟩ := nI_ofx q1 q2 (by omega)
    exact boi (cl_R (fun W e6 _ => vi (c_lettersOf W.1 (s61 e6) hc))) (ml_R (by decide) (fun O _ _ => by obtain ⟨r, rfl, M⟩ := O.2.1 rfl; exact vi (q_lettersOf M hc))) hV
  · exact boi (cl_R (w := 1) (fun W e6 _ => vi (c_lettersOf0 W.1 (fun z => q ⟨(s6i e6).mp z.1, z.2⟩)))) (ml_R (by decide) (fun O _ _ => vi (q_lettersOf0 O q))) hV
theorem b_saidOn (hV : vO (td, fed, (tr, fl, pl), f, (g, mi, dy), τ, p, m)) : boI (td, fed, (tr, fl, pl), f, (g, mi, dy), τ, p, m) 29 239 [.int x] := by
  by_cases q : td = true ∧ 0 ≤ x ∧ x ≤ 99
  · obtain ⟨rfl, q1, q2⟩ := q
    obtain ⟨c, hc, rfl⟩ := nI_ofl (n := 99) q1 q2 (by decide)
    exact boi (cl_R (fun W e6 _ => vi (c_saidOn W.1 (s61 e6) hc))) (ml_R (by decide) (fun O _ _ => by obtain ⟨r, rfl, M⟩ := O.2.1 rfl; exact vi (q_saidOn M hc))) hV
  · exact boi (cl_R (w := if td = true then 2 else 1) (fun W e6 _ => by rw [← w_eq e6]; exact vi (c_saidOn0 W.1 (fun z => q ⟨(s6i e6).mp z.1, z.2⟩)))) (ml_R w_4 (fun O _ _ => vi (q_saidOn0 O q))) hV
theorem b_rhymes (hV : vO (td, fed, (tr, fl, pl), f, (g, mi, dy), τ, p, m)) : boI (td, fed, (tr, fl, pl), f, (g, mi, dy), τ, p, m) 33 241 [.int x, .int x2] := by
  have b3 := hV.1.1.2.2.2.1
  have b4 := hV.1.1.2.2.2.2.1
  have hn0 : lt_n τ = τ.1 3 + τ.1 4 := rfl
  by_cases q : (td = true ∧ 0 ≤ x ∧ x < nI (lt_n τ)) ∧ 1 ≤ x2 ∧ x2 ≤ 8
  · obtain ⟨⟨rfl, q1, q2⟩, q3, q4⟩ := q
    obtain ⟨c, hc, rfl⟩ := nI_ofx q1 q2 (by omega)
    obtain ⟨j, hj, rfl⟩ := nI_of1 (n := 8) q3 q4 (by decide)
    exact boi (cl_R (fun W e6 _ => vi (c_rhymes W.1 (s61 e6) hc hj))) (ml_R (by decide) (fun O _ _ => by obtain ⟨r, rfl, M⟩ := O.2.1 rfl; exact vi (q_rhymes M hc hj))) hV
  · exact boi (cl_R (w := if td = true ∧ 0 ≤ x ∧ x < nI (lt_n τ) then 2 else 1) (fun W e6 _ => by rw [← w_if e6]; exact vi (c_rhymes0 W.1 (fun z => q ⟨⟨(s6i e6).mp z.1.1, z.1.2⟩, z.2⟩)))) (ml_R w_p4 (fun O _ _ => vi (q_rhymes0 O q))) hV
theorem b_readings (hV : vO (td, fed, (tr, fl, pl), f, (g, mi, dy), τ, p, m)) : boI (td, fed, (tr, fl, pl), f, (g, mi, dy), τ, p, m) 44 259 [.int x, .int x2] := by
  have b7 := hV.1.1.2.2.2.2.2.2.2
  by_cases q : (td = true ∧ 0 ≤ x ∧ x < nI (τ.1 7)) ∧ 0 ≤ x2 ∧ x2 < 26
  · obtain ⟨⟨rfl, q1, q2⟩, q3, q4⟩ := q
    obtain ⟨c, hc, rfl⟩ := nI_ofx q1 q2 (by omega)
    obtain ⟨j, hj, rfl⟩ := nI_ofx (n := 26) q3 q4 (by decide)
    exact boi (cl_R (fun W e6 _ => vi (c_readings W.1 (s61 e6) hc hj))) (ml_R (by decide) (fun O _ _ => by obtain ⟨r, rfl, M⟩ := O.2.1 rfl; exact vi (q_readings M hc hj))) hV
  · exact boi (cl_R (w := if td = true ∧ 0 ≤ x ∧ x < nI (τ.1 7) then 2 else 1) (fun W e6 _ => by rw [← w_if e6]; exact vi (c_readings0 W.1 (fun z => q ⟨⟨(s6i e6).mp z.1.1, z.1.2⟩, z.2⟩)))) (ml_R w_p4 (fun O _ _ => vi (q_readings0 O q))) hV
theorem b_yet {lo : Bool} (hV : vO (td, fed, (tr, fl, pl), f, (g, mi, dy), τ, p, m)) : boJ (td, fed, (tr, fl, pl), f, (g, mi, dy), τ, p, m) 54 278 [.int x, .int x2, .int (if lo = true then 1 else 0)] := by
  have b1 := hV.1.1.2.1
  have hg := hV.2.2.2.1
  have hc2 : 26 - nb_c g < 100 := by omega
  by_cases q : (td = true ∧ 0 ≤ x ∧ x < nI (τ.1 1)) ∧ (0 ≤ x2 ∧ x2 ≤ 3) ∧ x2 ≤ nI (26 - nb_c g)
  · obtain ⟨⟨rfl, q1, q2⟩, ⟨q3, q4⟩, q5⟩ := q
    obtain ⟨c, hc, rfl⟩ := nI_ofx q1 q2 (by omega)
    obtain ⟨j, hj, rfl⟩ := nI_ofl (n := 3) q3 q4 (by decide)
    have hl : j ≤ 26 - nb_c g := by rw [fa_le, nI_toInt (by omega), nI_toInt (by omega)] at q5; omega
    exact boj (cl_R (fun W e6 _ => vj (c_yet W.1 (s61 e6) hg hc hj hl))) (ml_Y (fun M ⟨f0, a⟩ _ _ => am_m_mono (vj (q_yet M a hc hj hl)) (fun v h2 ⟨e, f, k⟩ => ⟨e, _, Or.inr (Or.inl ⟨f, rfl⟩), k⟩))) hV
  · exact boj (cl_R (w := if td = true ∧ 0 ≤ x ∧ x < nI (τ.1 1) then 2 else 1) (fun W e6 _ => by rw [← w_if e6]; exact vj (c_yet0 W.1 hg (fun z => q ⟨⟨(s6i e6).mp z.1.1, z.1.2⟩, z.2⟩)))) (ml_R w_p4 (fun O _ _ => vj (q_yet0 O q))) hV
theorem b_mean {lo : Bool} (hV : vO (td, fed, (tr, fl, pl), f, (g, mi, dy), τ, p, m)) : boJ (td, fed, (tr, fl, pl), f, (g, mi, dy), τ, p, m) 57 284 [.int x, .int (if lo = true then 1 else 0)] := by
  have hg := hV.2.2.2.1
  have hc2 : 26 - nb_c g < 100 := by omega
  by_cases q : td = true ∧ (0 ≤ x ∧ x ≤ 3) ∧ x ≤ nI (26 - nb_c g)
  · obtain ⟨rfl, ⟨q3, q4⟩, q5⟩ := q
    obtain ⟨j, hj, rfl⟩ := nI_ofl (n := 3) q3 q4 (by decide)
    have hl : j ≤ 26 - nb_c g := by rw [fa_le, nI_toInt (by omega), nI_toInt (by omega)] at q5; omega
    exact boj (cl_R (fun W e6 _ => vj (c_mean W.1 (s61 e6) hg hj hl))) (ml_Y (fun M ⟨f0, a⟩ _ _ => am_m_mono (vj (q_mean M a hj hl)) (fun v h2 ⟨e, f, k⟩ => ⟨e, _, Or.inr (Or.inl ⟨f, rfl⟩), k⟩))) hV
  · exact boj (cl_R (w := if td = true then 2 else 1) (fun W e6 _ => by rw [← w_eq e6]; exact vj (c_mean0 W.1 hg (fun z => q ⟨(s6i e6).mp z.1, z.2⟩)))) (ml_R w_4 (fun O _ _ => vj (q_mean0 O q))) hV
theorem b_silence (hV : vO (td, fed, (tr, fl, pl), f, (g, mi, dy), τ, p, m)) : boI (td, fed, (tr, fl, pl), f, (g, mi, dy), τ, p, m) 58 285 [.int x] := by
  have hg := hV.2.2.2.1
  by_cases q : td = true ∧ 0 ≤ x ∧ x < 65537
  · obtain ⟨rfl, q1, q2⟩ := q
    obtain ⟨c, hc, rfl⟩ := nI_ofx (n := 65537) q1 q2 (by decide)
    exact boi (cl_R (fun W e6 _ => vi (c_silence W.1 (s61 e6) hg hc))) (ml_Y (fun M _ _ _ => am_m_mono (vi (q_silence M hc)) (fun v h2 ⟨e, k⟩ => ⟨e, _, Or.inl rfl, k⟩))) hV
  · exact boi (cl_R (w := if td = true then 2 else 1) (fun W e6 _ => by rw [← w_eq e6]; exact vi (c_silence0 W.1 (fun z => q ⟨(s6i e6).mp z.1, z.2⟩)))) (ml_R w_4 (fun O _ _ => vi (q_silence0 O q))) hV
theorem b_saidBehind (hV : vO (td, fed, (tr, fl, pl), f, (g, mi, dy), τ, p, m)) : boI (td, fed, (tr, fl, pl), f, (g, mi, dy), τ, p, m) 59 289 [.int x, .int x2] := by
  have hg := hV.2.2.2.1
  have hc2 : 26 - nb_c g < 100 := by omega
  by_cases q : td = true ∧ (0 ≤ x ∧ x < 65537) ∧ 0 ≤ x2 ∧ x2 ≤ nI (26 - nb_c g)
  · obtain ⟨rfl, ⟨q1, q2⟩, q3, q4⟩ := q
    obtain ⟨c, hc, rfl⟩ := nI_ofx (n := 65537) q1 q2 (by decide)
    obtain ⟨j, hj, rfl⟩ := nI_ofl q3 q4 (by omega)
    exact boi (cl_R (fun W e6 _ => vi (c_saidBehind W.1 (s61 e6) hg hc hj))) (ml_Y (fun M _ _ _ => am_m_mono (vi (q_saidBehind M hc hj)) (fun v h2 ⟨e, k⟩ => ⟨e, _, Or.inl rfl, k⟩))) hV
  · exact boi (cl_R (w := if td = true then 2 else 1) (fun W e6 _ => by rw [← w_eq e6]; exact vi (c_saidBehind0 W.1 hg (fun z => q ⟨(s6i e6).mp z.1, z.2⟩)))) (ml_R w_4 (fun O _ _ => vi (q_saidBehind0 O q))) hV
theorem b_goesAt (hV : vO (td, fed, (tr, fl, pl), f, (g, mi, dy), τ, p, m)) : boI (td, fed, (tr, fl, pl), f, (g, mi, dy), τ, p, m) 60 290 [.int x, .int x2] := by
  have hg := hV.2.2.2.1
  have hc2 : 26 - nb_c g < 100 := by omega
  by_cases q : td = true ∧ (0 ≤ x ∧ x < 65537) ∧ 1 ≤ x2 ∧ x2 ≤ nI (26 - nb_c g)
  · obtain ⟨rfl, ⟨q1, q2⟩, q3, q4⟩ := q
    obtain ⟨c, hc, rfl⟩ := nI_ofx (n := 65537) q1 q2 (by decide)
    obtain ⟨j, ⟨h1, hj⟩, rfl⟩ := nI_of1 q3 q4 (by omega)
    exact boi (cl_R (fun W e6 _ => vi (c_goesAt W.1 (s61 e6) hg hc h1 hj))) (ml_Y (fun M _ _ _ => am_m_mono (vi (q_goesAt M hc h1 hj)) (fun v h2 ⟨e, k⟩ => ⟨e, _, Or.inl rfl, k⟩))) hV
  · exact boi (cl_R (w := if td = true then 2 else 1) (fun W e6 _ => by rw [← w_eq e6]; exact vi (c_goesAt0 W.1 hg (fun z => q ⟨(s6i e6).mp z.1, z.2⟩)))) (ml_R w_4 (fun O _ _ => vi (q_goesAt0 O q))) hV
end BO
