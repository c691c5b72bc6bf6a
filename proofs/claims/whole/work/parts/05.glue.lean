/-! ===== how a call's end goes on ===== -/
theorem rf_cat (x : Option Nat) : (va_rf x).category = 1 := by cases x <;> rfl
theorem rf_nar (x : Option Nat) (C : String) : narrow (.object C) (va_rf x) = va_rf x := by cases x <;> rfl
theorem rf_fit (x : Option Nat) (C : String) : fits (.object C) (va_rf x) = true := by cases x <;> rfl
theorem nz_nar {v : Int32} (h : v = nI 0 ∨ v = nI 1) : narrow .boolean (.int v) = .int v := by rcases h with rfl | rfl <;> rfl
theorem nz_fit {v : Int32} (h : v = nI 0 ∨ v = nI 1) : fits .boolean (.int v) = true := by rcases h with rfl | rfl <;> rfl
theorem sw_cases (n : Nat) (x : Int32) (hn : n < 2 ^ 31 := by decide) : (x.toInt < 0 ∨ (n : Int) < x.toInt) ∨ ∃ k : Nat, k ≤ n ∧ x = nI k := by
  by_cases h0 : x.toInt < 0
  · exact Or.inl (Or.inl h0)
  · by_cases h1 : (n : Int) < x.toInt
    · exact Or.inl (Or.inr h1)
    · obtain ⟨j, hj, rfl⟩ := nI_of (x := x) (fun h => h0 (by simpa using Int32.lt_iff_toInt_lt.mp h))
      rw [nI_toInt hj] at h1
      exact Or.inr ⟨j, by omega, rfl⟩
def kV (F : Hp → Prop) : Rs → Hp → Prop := fun r h => r = .inl none ∧ F h
def kVX (F : Hp → Prop) (X : String → Hp → Prop) : Rs → Hp → Prop := fun r h => (r = .inl none ∧ F h) ∨ ∃ E, r = .inr E ∧ X E h
def kI (F : Int32 → Hp → Prop) : Rs → Hp → Prop := fun r h => ∃ x : Int32, r = .inl (some (.int x)) ∧ F x h
def kIX (F : Int32 → Hp → Prop) (X : String → Hp → Prop) : Rs → Hp → Prop := fun r h => (∃ x : Int32, r = .inl (some (.int x)) ∧ F x h) ∨ ∃ E, r = .inr E ∧ X E h
theorem kI_no {F : Int32 → Hp → Prop} (E : String) (h : Hp) : ¬ kI F (.inr E) h := fun ⟨_, e, _⟩ => by cases e
theorem kIX_x {F : Int32 → Hp → Prop} {X : String → Hp → Prop} {E : String} {h : Hp} (q : kIX F X (.inr E) h) : X E h := by
  rcases q with ⟨_, e, _⟩ | ⟨E2, e, q⟩
  · cases e
  · cases e; exact q
theorem kI.mono {F G : Int32 → Hp → Prop} (m : ∀ x h, F x h → G x h) {r : Rs} {h : Hp} (q : kI F r h) : kI G r h := by
  obtain ⟨x, e, q⟩ := q
  exact ⟨x, e, m _ _ q⟩
theorem kIX.mono {F G : Int32 → Hp → Prop} {X Y : String → Hp → Prop} (m : ∀ x h, F x h → G x h) (n : ∀ E h, X E h → Y E h) {r : Rs} {h : Hp} (q : kIX F X r h) : kIX G Y r h := by
  rcases q with ⟨x, e, q⟩ | ⟨E, e, q⟩
  · exact Or.inl ⟨x, e, m _ _ q⟩
  · exact Or.inr ⟨E, e, n _ _ q⟩
theorem MX.I {l : Launch} {K : Kx} {y : MethodName} {ws : List Cond} {fr lo mc ms : Nat} {As : List Value} {h : Hp} {F G : Int32 → Hp → Prop} (q : MX l K y ws fr lo mc ms As h (kI F)) (m : ∀ x h, F x h → G x h) : MX l K y ws fr lo mc ms As h (kI G) := q.mono fun _ _ z => z.mono m
theorem MX.IX {l : Launch} {K : Kx} {y : MethodName} {ws : List Cond} {fr lo mc ms : Nat} {As : List Value} {h : Hp} {F G : Int32 → Hp → Prop} {X Y : String → Hp → Prop} (q : MX l K y ws fr lo mc ms As h (kIX F X)) (m : ∀ x h, F x h → G x h) (n : ∀ E h, X E h → Y E h) : MX l K y ws fr lo mc ms As h (kIX G Y) := q.mono fun _ _ z => z.mono m n
def kL (F : Int64 → Hp → Prop) : Rs → Hp → Prop := fun r h => ∃ x : Int64, r = .inl (some (.long x)) ∧ F x h
def kLX (F : Int64 → Hp → Prop) (X : String → Hp → Prop) : Rs → Hp → Prop := fun r h => (∃ x : Int64, r = .inl (some (.long x)) ∧ F x h) ∨ ∃ E, r = .inr E ∧ X E h
theorem kL_no {F : Int64 → Hp → Prop} (E : String) (h : Hp) : ¬ kL F (.inr E) h := fun ⟨_, e, _⟩ => by cases e
theorem kLX_x {F : Int64 → Hp → Prop} {X : String → Hp → Prop} {E : String} {h : Hp} (q : kLX F X (.inr E) h) : X E h := by
  rcases q with ⟨_, e, _⟩ | ⟨E2, e, q⟩
  · cases e
  · cases e; exact q
theorem kL.mono {F G : Int64 → Hp → Prop} (m : ∀ x h, F x h → G x h) {r : Rs} {h : Hp} (q : kL F r h) : kL G r h := by
  obtain ⟨x, e, q⟩ := q
  exact ⟨x, e, m _ _ q⟩
theorem kLX.mono {F G : Int64 → Hp → Prop} {X Y : String → Hp → Prop} (m : ∀ x h, F x h → G x h) (n : ∀ E h, X E h → Y E h) {r : Rs} {h : Hp} (q : kLX F X r h) : kLX G Y r h := by
  rcases q with ⟨x, e, q⟩ | ⟨E, e, q⟩
  · exact Or.inl ⟨x, e, m _ _ q⟩
  · exact Or.inr ⟨E, e, n _ _ q⟩
theorem MX.L {l : Launch} {K : Kx} {y : MethodName} {ws : List Cond} {fr lo mc ms : Nat} {As : List Value} {h : Hp} {F G : Int64 → Hp → Prop} (q : MX l K y ws fr lo mc ms As h (kL F)) (m : ∀ x h, F x h → G x h) : MX l K y ws fr lo mc ms As h (kL G) := q.mono fun _ _ z => z.mono m
theorem MX.LX {l : Launch} {K : Kx} {y : MethodName} {ws : List Cond} {fr lo mc ms : Nat} {As : List Value} {h : Hp} {F G : Int64 → Hp → Prop} {X Y : String → Hp → Prop} (q : MX l K y ws fr lo mc ms As h (kLX F X)) (m : ∀ x h, F x h → G x h) (n : ∀ E h, X E h → Y E h) : MX l K y ws fr lo mc ms As h (kLX G Y) := q.mono fun _ _ z => z.mono m n
def kQ (F : Option Nat → Hp → Prop) : Rs → Hp → Prop := fun r h => ∃ x : Option Nat, r = .inl (some (va_rf x)) ∧ F x h
def kQX (F : Option Nat → Hp → Prop) (X : String → Hp → Prop) : Rs → Hp → Prop := fun r h => (∃ x : Option Nat, r = .inl (some (va_rf x)) ∧ F x h) ∨ ∃ E, r = .inr E ∧ X E h
theorem kQ_no {F : Option Nat → Hp → Prop} (E : String) (h : Hp) : ¬ kQ F (.inr E) h := fun ⟨_, e, _⟩ => by cases e
theorem kQX_x {F : Option Nat → Hp → Prop} {X : String → Hp → Prop} {E : String} {h : Hp} (q : kQX F X (.inr E) h) : X E h := by
  rcases q with ⟨_, e, _⟩ | ⟨E2, e, q⟩
  · cases e
  · cases e; exact q
theorem kQ.mono {F G : Option Nat → Hp → Prop} (m : ∀ x h, F x h → G x h) {r : Rs} {h : Hp} (q : kQ F r h) : kQ G r h := by
  obtain ⟨x, e, q⟩ := q
  exact ⟨x, e, m _ _ q⟩
theorem kQX.mono {F G : Option Nat → Hp → Prop} {X Y : String → Hp → Prop} (m : ∀ x h, F x h → G x h) (n : ∀ E h, X E h → Y E h) {r : Rs} {h : Hp} (q : kQX F X r h) : kQX G Y r h := by
  rcases q with ⟨x, e, q⟩ | ⟨E, e, q⟩
  · exact Or.inl ⟨x, e, m _ _ q⟩
  · exact Or.inr ⟨E, e, n _ _ q⟩
theorem MX.Q {l : Launch} {K : Kx} {y : MethodName} {ws : List Cond} {fr lo mc ms : Nat} {As : List Value} {h : Hp} {F G : Option Nat → Hp → Prop} (q : MX l K y ws fr lo mc ms As h (kQ F)) (m : ∀ x h, F x h → G x h) : MX l K y ws fr lo mc ms As h (kQ G) := q.mono fun _ _ z => z.mono m
theorem MX.QX {l : Launch} {K : Kx} {y : MethodName} {ws : List Cond} {fr lo mc ms : Nat} {As : List Value} {h : Hp} {F G : Option Nat → Hp → Prop} {X Y : String → Hp → Prop} (q : MX l K y ws fr lo mc ms As h (kQX F X)) (m : ∀ x h, F x h → G x h) (n : ∀ E h, X E h → Y E h) : MX l K y ws fr lo mc ms As h (kQX G Y) := q.mono fun _ _ z => z.mono m n
theorem kV_no {F : Hp → Prop} (E : String) (h : Hp) : ¬ kV F (.inr E) h := fun ⟨e, _⟩ => by cases e
theorem kVX_x {F : Hp → Prop} {X : String → Hp → Prop} {E : String} {h : Hp} (q : kVX F X (.inr E) h) : X E h := by
  rcases q with ⟨e, _⟩ | ⟨E2, e, q⟩
  · cases e
  · cases e; exact q
theorem kV.mono {F G : Hp → Prop} (m : ∀ h, F h → G h) {r : Rs} {h : Hp} (q : kV F r h) : kV G r h := ⟨q.1, m _ q.2⟩
theorem kVX.mono {F G : Hp → Prop} {X Y : String → Hp → Prop} (m : ∀ h, F h → G h) (n : ∀ E h, X E h → Y E h) {r : Rs} {h : Hp} (q : kVX F X r h) : kVX G Y r h := by
  rcases q with ⟨e, q⟩ | ⟨E, e, q⟩
  · exact Or.inl ⟨e, m _ q⟩
  · exact Or.inr ⟨E, e, n _ _ q⟩
theorem MX.V {l : Launch} {K : Kx} {y : MethodName} {ws : List Cond} {fr lo mc ms : Nat} {As : List Value} {h : Hp} {F G : Hp → Prop} (q : MX l K y ws fr lo mc ms As h (kV F)) (m : ∀ h, F h → G h) : MX l K y ws fr lo mc ms As h (kV G) := q.mono fun _ _ z => z.mono m
theorem MX.VX {l : Launch} {K : Kx} {y : MethodName} {ws : List Cond} {fr lo mc ms : Nat} {As : List Value} {h : Hp} {F G : Hp → Prop} {X Y : String → Hp → Prop} (q : MX l K y ws fr lo mc ms As h (kVX F X)) (m : ∀ h, F h → G h) (n : ∀ E h, X E h → Y E h) : MX l K y ws fr lo mc ms As h (kVX G Y) := q.mono fun _ _ z => z.mono m n
section Glue
variable {l : Launch} {K : Kx} {own : String} {cc : ByteArray} {nL : Nat} {ret : Option FieldType} {Ts : List Cond} {hh : List (Nat × Nat × Nat × Nat)} {nm : String} {fr lo mc ms : Nat} {Qf : State → Array Value → List Frame → State → Prop} {pc : Nat} {rest : List Value} {lv lv' : List (Nat × Value)} {h : Hp} {kc ks : Nat}
theorem J_lveq (e : lv = lv') (k : J l K own cc nL ret Ts hh nm fr lo mc ms Qf pc rest lv' h kc ks) : J l K own cc nL ret Ts hh nm fr lo mc ms Qf pc rest lv h kc ks := by rw [e]; exact k
theorem J_aload_nq {k : Fin 4} {x : Option Nat} (hd : decode cc pc = .ok (.aload_n k, 1)) (q : Nat) (hv : lv[q]? = some ((k : Nat), va_rf x)) (k : J l K own cc nL ret Ts hh nm fr lo mc ms Qf (pc + 1) (va_rf x :: rest) lv h kc ks) : J l K own cc nL ret Ts hh nm fr lo mc ms Qf pc rest lv h kc ks := by
  cases x with
  | none => exact fun p e s m args below meth c ok H locs ls hR hS hl => lv_aload_nN ok.1 ok.2.1 hd rfl (lv_at hl q hv) (k p e s m args below meth c ok H locs ls hR hS hl)
  | some x => exact fun p e s m args below meth c ok H locs ls hR hS hl => lv_aload_n ok.1 ok.2.1 hd rfl (lv_at hl q hv) (k p e s m args below meth c ok H locs ls hR hS hl)
theorem J_aloadq {i : Nat} {x : Option Nat} (hd : decode cc pc = .ok (.aload i, 2)) (q : Nat) (hv : lv[q]? = some (i, va_rf x)) (k : J l K own cc nL ret Ts hh nm fr lo mc ms Qf (pc + 2) (va_rf x :: rest) lv h kc ks) : J l K own cc nL ret Ts hh nm fr lo mc ms Qf pc rest lv h kc ks := by
  cases x with
  | none => exact fun p e s m args below meth c ok H locs ls hR hS hl => lv_aloadN ok.1 ok.2.1 hd (lv_at hl q hv) (k p e s m args below meth c ok H locs ls hR hS hl)
  | some x => exact fun p e s m args below meth c ok H locs ls hR hS hl => lv_aload ok.1 ok.2.1 hd (lv_at hl q hv) (k p e s m args below meth c ok H locs ls hR hS hl)
theorem kV_kk {F : Hp → Prop} (kk : ∀ h', F h' → J l K own cc nL ret Ts hh nm fr lo mc ms Qf pc rest lv h' kc ks) (v : Option Value) (h' : Hp) (q : kV F (.inl v) h') : J l K own cc nL ret Ts hh nm fr lo mc ms Qf pc (v.toList ++ rest) lv h' kc ks := by
  obtain ⟨e, q⟩ := q
  cases e
  exact kk h' q
theorem kVX_kk {F : Hp → Prop} {X : String → Hp → Prop} (kk : ∀ h', F h' → J l K own cc nL ret Ts hh nm fr lo mc ms Qf pc rest lv h' kc ks) (v : Option Value) (h' : Hp) (q : kVX F X (.inl v) h') : J l K own cc nL ret Ts hh nm fr lo mc ms Qf pc (v.toList ++ rest) lv h' kc ks := by
  rcases q with ⟨e, q⟩ | ⟨E, e, q⟩
  · cases e; exact kk h' q
  · cases e
theorem kI_kk {F : Int32 → Hp → Prop} (kk : ∀ x h', F x h' → J l K own cc nL ret Ts hh nm fr lo mc ms Qf pc (.int x :: rest) lv h' kc ks) (v : Option Value) (h' : Hp) (q : kI F (.inl v) h') : J l K own cc nL ret Ts hh nm fr lo mc ms Qf pc (v.toList ++ rest) lv h' kc ks := by
  obtain ⟨x, e, q⟩ := q
  cases e
  exact kk x h' q
theorem kIX_kk {F : Int32 → Hp → Prop} {X : String → Hp → Prop} (kk : ∀ x h', F x h' → J l K own cc nL ret Ts hh nm fr lo mc ms Qf pc (.int x :: rest) lv h' kc ks) (v : Option Value) (h' : Hp) (q : kIX F X (.inl v) h') : J l K own cc nL ret Ts hh nm fr lo mc ms Qf pc (v.toList ++ rest) lv h' kc ks := by
  rcases q with ⟨x, e, q⟩ | ⟨E, e, q⟩
  · cases e; exact kk x h' q
  · cases e
theorem kL_kk {F : Int64 → Hp → Prop} (kk : ∀ x h', F x h' → J l K own cc nL ret Ts hh nm fr lo mc ms Qf pc (.long x :: rest) lv h' kc ks) (v : Option Value) (h' : Hp) (q : kL F (.inl v) h') : J l K own cc nL ret Ts hh nm fr lo mc ms Qf pc (v.toList ++ rest) lv h' kc ks := by
  obtain ⟨x, e, q⟩ := q
  cases e
  exact kk x h' q
theorem kLX_kk {F : Int64 → Hp → Prop} {X : String → Hp → Prop} (kk : ∀ x h', F x h' → J l K own cc nL ret Ts hh nm fr lo mc ms Qf pc (.long x :: rest) lv h' kc ks) (v : Option Value) (h' : Hp) (q : kLX F X (.inl v) h') : J l K own cc nL ret Ts hh nm fr lo mc ms Qf pc (v.toList ++ rest) lv h' kc ks := by
  rcases q with ⟨x, e, q⟩ | ⟨E, e, q⟩
  · cases e; exact kk x h' q
  · cases e
theorem kQ_kk {F : Option Nat → Hp → Prop} (kk : ∀ x h', F x h' → J l K own cc nL ret Ts hh nm fr lo mc ms Qf pc (va_rf x :: rest) lv h' kc ks) (v : Option Value) (h' : Hp) (q : kQ F (.inl v) h') : J l K own cc nL ret Ts hh nm fr lo mc ms Qf pc (v.toList ++ rest) lv h' kc ks := by
  obtain ⟨x, e, q⟩ := q
  cases e
  exact kk x h' q
theorem kQX_kk {F : Option Nat → Hp → Prop} {X : String → Hp → Prop} (kk : ∀ x h', F x h' → J l K own cc nL ret Ts hh nm fr lo mc ms Qf pc (va_rf x :: rest) lv h' kc ks) (v : Option Value) (h' : Hp) (q : kQX F X (.inl v) h') : J l K own cc nL ret Ts hh nm fr lo mc ms Qf pc (v.toList ++ rest) lv h' kc ks := by
  rcases q with ⟨x, e, q⟩ | ⟨E, e, q⟩
  · cases e; exact kk x h' q
  · cases e
end Glue
theorem dfX0 : ∀ j, j < 6 → defaultValue (tyX0 j) = vp_V [.int 0, .long 0, .int 0, .null, .null, .int 0] j := fun j hj => match j, hj with
  | 0, _ => rfl
  | 1, _ => rfl
  | 2, _ => rfl
  | 3, _ => rfl
  | 4, _ => rfl
  | 5, _ => rfl
  | k + 6, h => absurd h (by omega)
theorem dfX1 : ∀ j, j < 2 → defaultValue (tyX1 j) = vp_V [.null, .int 0] j := fun j hj => match j, hj with
  | 0, _ => rfl
  | 1, _ => rfl
  | k + 2, h => absurd h (by omega)
theorem dfX2 : ∀ j, j < 5 → defaultValue (tyX2 j) = vp_V [.int 0, .null, .null, .null, .int 0] j := fun j hj => match j, hj with
  | 0, _ => rfl
  | 1, _ => rfl
  | 2, _ => rfl
  | 3, _ => rfl
  | 4, _ => rfl
  | k + 5, h => absurd h (by omega)
theorem dfX3 : ∀ j, j < 9 → defaultValue (tyX3 j) = vp_V [.null, .null, .null, .null, .int 0, .int 0, .int 0, .long 0, .int 0] j := fun j hj => match j, hj with
  | 0, _ => rfl
  | 1, _ => rfl
  | 2, _ => rfl
  | 3, _ => rfl
  | 4, _ => rfl
  | 5, _ => rfl
  | 6, _ => rfl
  | 7, _ => rfl
  | 8, _ => rfl
  | k + 9, h => absurd h (by omega)
theorem dfX4 : ∀ j, j < 23 → defaultValue (tyX4 j) = vp_V [.int 0, .int 0, .null, .null, .null, .null, .null, .null, .null, .null, .null, .null, .null, .null, .null, .null, .int 0, .int 0, .int 0, .int 0, .long 0, .int 0, .int 0] j := fun j hj => match j, hj with
  | 0, _ => rfl
  | 1, _ => rfl
  | 2, _ => rfl
  | 3, _ => rfl
  | 4, _ => rfl
  | 5, _ => rfl
  | 6, _ => rfl
  | 7, _ => rfl
  | 8, _ => rfl
  | 9, _ => rfl
  | 10, _ => rfl
  | 11, _ => rfl
  | 12, _ => rfl
  | 13, _ => rfl
  | 14, _ => rfl
  | 15, _ => rfl
  | 16, _ => rfl
  | 17, _ => rfl
  | 18, _ => rfl
  | 19, _ => rfl
  | 20, _ => rfl
  | 21, _ => rfl
  | 22, _ => rfl
  | k + 23, h => absurd h (by omega)
