/-! ===== the class: keep ===== -/
theorem range_cut {n p : Nat} (hp : p < n) : ∃ A B, List.range n = A ++ p :: B ∧ (∀ a, a ∈ A → a < n ∧ a ≠ p) ∧ ∀ a, a ∈ B → a < n ∧ a ≠ p := by
  have h1 : List.range n = (List.range n).take p ++ p :: (List.range n).drop (p + 1) := by
    conv => lhs; rw [← List.take_append_drop p (List.range n)]
    congr 1
    rw [List.drop_eq_getElem_cons (by simpa using hp)]
    simp
  have nd := List.nodup_range (n := n)
  rw [h1] at nd
  have nd2 := List.nodup_append.mp nd
  have nd3 := List.nodup_cons.mp nd2.2.1
  refine ⟨_, _, h1, fun a ha => ⟨List.mem_range.mp (List.mem_of_mem_take ha), fun z => nd2.2.2 a ha p (by simp) z⟩, fun a ha => ⟨List.mem_range.mp (List.mem_of_mem_drop ha), fun z => nd3.1 (z ▸ ha)⟩⟩
theorem flat_congr {A : List Nat} {e e' : Nat → List EV} (h : ∀ a, a ∈ A → e a = e' a) : A.flatMap e = A.flatMap e' := by
  induction A with
  | nil => rfl
  | cons a A ih => rw [List.flatMap_cons, List.flatMap_cons, h a (by simp), ih fun b hb => h b (by simp [hb])]
theorem perm5 {A A9 B9 B N : List EV} : (A ++ (A9 ++ N ++ B9) ++ B).Perm (N ++ (A ++ (A9 ++ B9) ++ B)) := by
  rw [List.perm_iff_count]
  intro a
  simp only [List.count_append]
  omega
/-- entries stand in the pages of their numbers -/
def PI (th : Nat → Bool) (pa : Nat → Nat → Nat) (Lp : Nat → List (Option EV)) : Prop := ∀ c, c < 7 → th c = true → ∀ p, p < 16 → ∀ w ∈ ents (Lp (pa c p)), pgI w.1 w.2.1 w.2.2.1 = p
def kyE (v : EV) : Int32 × Int64 × Int32 := (v.1, v.2.1, v.2.2.1)
theorem at3_ky {s : Int32} {k : Int64} {sp : Int32} {v : EV} : at3 s k sp v = true ↔ kyE v = (s, k, sp) := by
  simp [at3, kyE]
/-- the entries without the one at v's place -/
def noE (v : EV) (E : List EV) : List EV := E.filter (fun w => !at3 v.1 v.2.1 v.2.2.1 w)
theorem noE_self {v : EV} {E : List EV} (h : ∀ w ∈ E, kyE w ≠ kyE v) : noE v E = E := by
  rw [noE, List.filter_eq_self]
  intro w hw
  have := h w hw
  simp only [Bool.not_eq_true', ← Bool.not_eq_true]
  rw [at3_ky]
  exact this
theorem noE_app (v : EV) (A B : List EV) : noE v (A ++ B) = noE v A ++ noE v B := List.filter_append ..
/-- one page is changed at one place -/
theorem keep_perm {Lp Lp' : Nat → List (Option EV)} {pg pg' : Nat → Nat} {p : Nat} {v : EV} {A B : List EV} {ow nw : Option EV} (hp : p < 16) (hpv : pgI v.1 v.2.1 v.2.2.1 = p) (hpi : ∀ p', p' < 16 → ∀ w ∈ ents (Lp (pg p')), pgI w.1 w.2.1 w.2.2.1 = p')
    (hnd : ((eP Lp pg 16).map kyE).Nodup) (hs : ∀ p', p' < 16 → p' ≠ p → ents (Lp' (pg' p')) = ents (Lp (pg p'))) (h1 : ents (Lp (pg p)) = A ++ ow.toList ++ B) (h2 : ents (Lp' (pg' p)) = A ++ nw.toList ++ B)
    (how : ∀ w, ow = some w → kyE w = kyE v) (hno : ow = none → ∀ w ∈ ents (Lp (pg p)), kyE w ≠ kyE v) : (eP Lp' pg' 16).Perm (nw.toList ++ noE v (eP Lp pg 16)) := by
  obtain ⟨X, Y, hr, hX, hY⟩ := range_cut hp
  have e1 : eP Lp pg 16 = X.flatMap (fun p => ents (Lp (pg p))) ++ (A ++ ow.toList ++ B) ++ Y.flatMap (fun p => ents (Lp (pg p))) := by
    rw [eP, hr, List.flatMap_append, List.flatMap_cons, h1]; simp
  have e2 : eP Lp' pg' 16 = X.flatMap (fun p => ents (Lp (pg p))) ++ (A ++ nw.toList ++ B) ++ Y.flatMap (fun p => ents (Lp (pg p))) := by
    rw [eP, hr, List.flatMap_append, List.flatMap_cons, h2]
    rw [flat_congr (A := X) (e' := fun p => ents (Lp (pg p))) fun a ha => hs a (hX a ha).1 (hX a ha).2, flat_congr (A := Y) (e' := fun p => ents (Lp (pg p))) fun a ha => hs a (hY a ha).1 (hY a ha).2]
    simp
  have far : ∀ Z : List Nat, (∀ a, a ∈ Z → a < 16 ∧ a ≠ p) → noE v (Z.flatMap (fun p => ents (Lp (pg p)))) = Z.flatMap (fun p => ents (Lp (pg p))) := fun Z hZ => noE_self fun w hw z => by
    obtain ⟨a, ha, hwa⟩ := List.mem_flatMap.mp hw
    have := hpi a (hZ a ha).1 w hwa
    have hv : pgI v.1 v.2.1 v.2.2.1 = a := by
      have y : kyE w = kyE v := z
      simp only [kyE, Prod.mk.injEq] at y
      rw [← y.1, ← y.2.1, ← y.2.2]; exact this
    exact (hZ a ha).2 (hv.symm.trans hpv)
  have mid : noE v (A ++ ow.toList ++ B) = A ++ B := by
    cases how' : ow with
    | none =>
      rw [how'] at h1
      simp only [Option.toList_none, List.append_nil] at h1 ⊢
      exact noE_self fun w hw => hno how' w (by rw [h1]; exact hw)
    | some w =>
      rw [how'] at e1
      have hw := how w how'
      have nd : ((A ++ [w] ++ B).map kyE).Nodup := by
        have := hnd
        rw [e1, List.map_append, List.map_append] at this
        exact (List.nodup_append.mp (List.nodup_append.mp this).1).2.1
      rw [List.map_append, List.map_append] at nd
      have n1 := List.nodup_append.mp nd
      have n2 := List.nodup_append.mp n1.1
      simp only [Option.toList_some]
      rw [noE_app, noE_app, noE_self (E := A), noE_self (E := B)]
      · have : noE v [w] = [] := by
          have : at3 v.1 v.2.1 v.2.2.1 w = true := at3_ky.mpr hw
          simp [noE, this]
        rw [this, List.append_nil]
      · intro u hu z
        exact n1.2.2 (kyE w) (by simp) (kyE u) (List.mem_map_of_mem hu) (by rw [z, hw])
      · intro u hu z
        exact n2.2.2 (kyE u) (List.mem_map_of_mem hu) (kyE w) (by simp) (by rw [z, hw])
  rw [e2, e1, noE_app, noE_app, far X hX, far Y hY, mid]
  exact perm5
/-- what becomes of the pages' addresses -/
def Tq (th : Nat → Bool) (p : Nat) (o : OV) (pa : Nat → Nat → Nat) (o' : OV) (pa' : Nat → Nat → Nat) : Prop :=
  (hdc th pa p (pa 0 p) = 0 ∧ o' = o ∧ pa' = pa) ∨ (0 < hdc th pa p (pa 0 p) ∧ o' = (o.1, o.2.1 + nI 1, o.2.2) ∧ ∃ q, nP th pa q ∧ pa' = pu pa p q)
theorem Tc.tq {th : Nat → Bool} {p : Nat} {o o' : OV} {pa pa' : Nat → Nat → Nat} {Lp Lp' : Nat → List (Option EV)} (t : Tc th p o pa Lp o' pa' Lp') : Tq th p o pa o' pa' := by
  rcases t with ⟨h1, h2, h3, _⟩ | ⟨h1, h2, q, h3, h4, _⟩
  · exact Or.inl ⟨h1, h2, h3⟩
  · exact Or.inr ⟨h1, h2, q, h3, h4⟩
theorem Tc.lp {th : Nat → Bool} {p : Nat} {o o' : OV} {pa pa' : Nat → Nat → Nat} {Lp Lp' : Nat → List (Option EV)} (t : Tc th p o pa Lp o' pa' Lp') {c p' : Nat} (hc : c < 7) (ht : th c = true) (hp : p' < 16) : Lp' (pa' c p') = Lp (pa c p') := by
  rcases t with ⟨h1, h2, rfl, rfl⟩ | ⟨h1, h2, q, h3, rfl, rfl⟩
  · rfl
  · by_cases y : c = 0 ∧ p' = p
    · obtain ⟨rfl, rfl⟩ := y
      rw [pu_s, up_s]
    · rw [pu_n y, up_n (h3 c p' hc ht hp)]
section Obj
variable {l : Launch} {K : Kx} {h h' : Hp} {x : Nat} {ad : Nat → Nat → Nat} {o : OV} {nm : Nat → Int32} {th : Nat → Bool} {nu : Nat → Int32} {sc : Nat → Nat} {kd ty : Nat → Nat → Int32} {pa : Nat → Nat → Nat} {Lp : Nat → List (Option EV)} {rw : Nat → Nat}
theorem CR.apart (C : CR K h x ad o nm th nu sc kd ty pa Lp rw) {p : Nat} (hp : p < 16) (h0 : hdc th pa p (pa 0 p) = 0) {c p' : Nat} (hc : c < 7) (ht : th c = true) (hp' : p' < 16) (n : ¬ (c = 0 ∧ p' = p)) : pa c p' ≠ pa 0 p := fun z => by
  have : p' = p := C.d.2.2.2.2.2.1 c 0 p' p hc (by decide) ht C.t0 hp' hp z
  subst this
  cases c with
  | zero => exact n ⟨rfl, rfl⟩
  | succ j =>
    have : 0 < hdc th pa p' (pa 0 p') := hdc_pos.mpr ⟨j, by omega, ht, z⟩
    omega
theorem sub_eP (Lp : Nat → List (Option EV)) (pg : Nat → Nat) {p n : Nat} (hp : p < n) : (ents (Lp (pg p))).length ≤ (eP Lp pg n).length := by
  obtain ⟨X, Y, hr, -, -⟩ := range_cut hp
  rw [eP, hr, List.flatMap_append, List.flatMap_cons]
  simp only [List.length_append]
  omega
theorem sp_keep {e mc ms : Nat} {v : EV} (htr : l.stackTraces = false) (C : CR K h x ad o nm th nu sc kd ty pa Lp rw) (I : PI th pa Lp) (hnd : ((eP Lp (pa 0) 16).map kyE).Nodup) (h150 : (eP Lp (pa 0) 16).length ≤ 150) (E : EntAt K h e v) (hN : v.2.2.2.1.length ≤ 10) (hM : v.2.2.2.2.1.length ≤ 10) (hm : 4 ≤ mc) (hs : 906 ≤ ms) :
    mX3_keep l K mc ms [.ref x, .ref e] h (kV fun h' => ∃ o' pa' Lp' rw', CR K h' x ad o' nm th nu sc kd ty pa' Lp' rw' ∧ FF K h h' ∧ Imm K h h' ∧ Tq th (pgI v.1 v.2.1 v.2.2.1) o pa o' pa' ∧ PI th pa' Lp' ∧
      (∀ c, 0 < c → c < 7 → th c = true → eP Lp' (pa' c) 16 = eP Lp (pa c) 16) ∧ (eP Lp' (pa' 0) 16).Perm ((nwE v).toList ++ noE v (eP Lp (pa 0) 16))) := by
  have E' := E
  obtain ⟨nu1, me1, b1, b2, b3, nf⟩ := E
  refine fX3_keep htr ⟨_, gf_of b1, _, gf_of b1, _, gf_of b1, by omega, by omega, ?_⟩
  refine (sp_pageNumber htr).I ?_
  rintro r h' ⟨rfl, rfl⟩
  have hp := pgI_lt v.1 v.2.1 v.2.2.1
  rw [pgN_eq]
  refine ⟨C.ob, 3, 306, by omega, by omega, ?_⟩
  refine (sp_pageToChange htr C hp (Nat.le_refl _) (Nat.le_refl _)).Q ?_
  rintro w h1 ⟨o1, pa1, Lp1, rw1, rfl, T, C1, hz, ff1, im1⟩
  have G := C1.g0 hp
  have hlp : ∀ {c p' : Nat}, c < 7 → th c = true → p' < 16 → Lp1 (pa1 c p') = Lp (pa c p') := fun hc ht hp => T.lp hc ht hp
  have hpg := hlp (show 0 < 7 by decide) C.t0 hp
  refine ⟨_, rfl, G.obj, 1, 600, by omega, by omega, ?_⟩
  have hne : pa1 0 (pgI v.1 v.2.1 v.2.2.1) ≠ rw1 (pa1 0 (pgI v.1 v.2.1 v.2.2.1)) := by
    obtain ⟨q1, f, q2, q3⟩ := G.1
    exact ne_tag q1 q2 (by simp [tag_O, tag_Q])
  have hlen := G.2.2.2.1
  refine (sp_keepEntry htr G.1 (E'.imm (by omega) (by omega) im1) (by omega) (by omega) (by omega) G.2.2.1 G.2.1 (fun n => ⟨n, hN, hM⟩) hne (Nat.le_refl _) (by omega)).V ?_
  rintro h2 ⟨rw2, L2, P2, hpr2, ok2, im2, fr2, hrw2, hlen2, A, B, ow, a1, a2, a3, a4⟩
  rw [hz] at P2
  have h1e : (ents (Lp1 (pa1 0 (pgI v.1 v.2.1 v.2.2.1)))).length ≤ 150 := by
    rw [hpg]
    exact Nat.le_trans (sub_eP Lp (pa 0) hp) h150
  obtain ⟨C2, ff2⟩ := C1.page hp hz P2 ok2 (by rcases hlen2 with z | z <;> have := G.2.2.1 <;> omega) (by rcases hlen2 with z | z <;> omega) im2 fr2 hrw2
  refine ⟨⟨by omega, by omega⟩, rfl, o1, pa1, _, _, C2, ff1.tr ff2, im1.tr im2, T.tq, ?_, ?_, ?_⟩
  · intro c hc ht p' hp' w hw
    by_cases y : c = 0 ∧ p' = pgI v.1 v.2.1 v.2.2.1
    · obtain ⟨rfl, rfl⟩ := y
      rw [up_s] at hw
      rw [a2] at hw
      have sub : ∀ u, u ∈ A ∨ u ∈ B → pgI u.1 u.2.1 u.2.2.1 = pgI v.1 v.2.1 v.2.2.1 := fun u hu => I 0 (by decide) C.t0 _ hp u (by rw [← hpg, a1]; rcases hu with z | z <;> simp [z])
      simp only [List.mem_append, Option.mem_toList] at hw
      rcases hw with (hw | hw) | hw
      · exact sub w (Or.inl hw)
      · unfold nwE at hw
        split at hw
        · cases hw
        · cases hw; rfl
      · exact sub w (Or.inr hw)
    · rw [up_n (C1.apart hp hz hc ht hp' y), hlp hc ht hp'] at hw
      exact I c hc ht p' hp' w hw
  · intro c hc0 hc ht
    unfold eP
    refine flat_congr fun p' hp' => ?_
    have hp'' := List.mem_range.mp hp'
    rw [up_n (C1.apart hp hz hc ht hp'' (fun z => by omega)), hlp hc ht hp'']
  · refine keep_perm (A := A) (B := B) (ow := ow) hp rfl (I 0 (by decide) C.t0) hnd ?_ (by rw [← hpg]; exact a1) (by rw [up_s]; exact a2) (fun w hw => by have := a3 w hw; simp [kyE, this]) (fun z w hw q => a4 z w (by rw [hpg]; exact hw) (by simpa [kyE] using q))
    intro p' hp' hne'
    rw [up_n (C1.apart hp hz (by decide) C.t0 hp' (fun z => hne' z.2)), hlp (by decide) C.t0 hp']
end Obj
