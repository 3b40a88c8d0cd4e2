/-! ===== trial only ===== -/
def sf_ct (K : sf_Q) (X : List Value → ab_H → Option ab_O) : Prop := ∀ (t : Nat → Nat) (hp : ab_H) (as : List Value), sf_h t hp → as.length = K.1.length → (∀ (i : Nat) (j : sf_J), K.1[i]? = some j → sf_j t hp.1 j as[i]?) → sf_S (sf_v0 as hp) K.2.1 →
  ∃ (r : Option Value) (hp' : ab_H) (t' : Nat → Nat), X as hp = some (r, hp') ∧ sf_h t' hp' ∧ sf_fr K.2.2.2.2 t hp t' hp' ∧ sf_an t' hp'.1 K.2.2.1 r ∧ sf_S (sf_v1 r as hp') K.2.2.2.1
def sf_cG (K : sf_Q) (X : List Value → ab_H → Option ab_O) (G : ab_H → Prop) (E : List Value → ab_H → Option Value → ab_H → Prop) : Prop := ∀ (t : Nat → Nat) (hp : ab_H) (as : List Value), sf_h t hp → as.length = K.1.length → (∀ (i : Nat) (j : sf_J), K.1[i]? = some j → sf_j t hp.1 j as[i]?) → sf_S (sf_v0 as hp) K.2.1 → G hp →
  ∃ (r : Option Value) (hp' : ab_H) (t' : Nat → Nat), X as hp = some (r, hp') ∧ sf_h t' hp' ∧ sf_fr K.2.2.2.2 t hp t' hp' ∧ sf_an t' hp'.1 K.2.2.1 r ∧ sf_S (sf_v1 r as hp') K.2.2.2.1 ∧ E as hp r hp'
