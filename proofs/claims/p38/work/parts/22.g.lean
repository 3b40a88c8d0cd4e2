-- 63.b26.word.lean.txt
section
def rwd : List Int := [1819238756, 1735356260, 495874696043, 512735736947, 1700885619, 469785863539, 7168366, 120299675936115, 114827585545331, 422541682035, 131260432541043, 1684628851, 6578553, 28530, 6385252, 7237492, 119165535610212, 29395861899601252, 1835099237, 435426714990, 439721161573, 1852137842, 6709618, 27991845698233700, 121450625394034]
theorem rwp_inj : ∀ i, i < 25 → ∀ k, k < 25 → rwp.getD i 0 = rwp.getD k 0 → i = k := by decide +kernel
theorem kwf_iff {v : Int} {k : Nat} (hk : k < 25) : ∀ f j, j ≤ k → k < j + f → j + f ≤ 25 → (kwf v f j = 64 + (k : Int) ↔ v = rwp.getD k 0)
  | 0, j, h1, h2, _ => absurd h2 (by omega)
  | f + 1, j, h1, h2, h3 => by
    by_cases c : v = rwp.getD j 0
    · rw [kwf_hit c]
      constructor
      · intro e
        rw [c, show j = k by omega]
      · intro e
        have := rwp_inj j (by omega) k hk (c.symm.trans e)
        omega
    · rw [kwf_skip c]
      by_cases e : j = k
      · subst e
        constructor
        · intro e
          rcases kwf_rng v f (j + 1) with h | h
          · omega
          · have : ∀ f i, j < i → kwf v f i ≠ 64 + (j : Int) := by
              intro f
              induction f with
              | zero => intro i _ e; have e' : (2 : Int) = 64 + (j : Int) := e; omega
              | succ f ih =>
                intro i hi
                show (if v = rwp.getD i 0 then 64 + (i : Int) else kwf v f (i + 1)) ≠ _
                split
                · omega
                · exact ih (i + 1) (by omega)
            exact absurd e (this f (j + 1) (by omega))
        · intro e
          exact absurd e c
      · exact kwf_iff hk f (j + 1) (by omega) (by omega) (by omega)
theorem kw_iff {v : Int} {k : Nat} (hk : k < 25) : kw v = 64 + (k : Int) ↔ v = rwp.getD k 0 := kwf_iff hk 25 0 (by omega) (by omega) (by omega)
theorem evl_wd {B : Nat → Int} {q m : Nat} : ∀ {i : Nat}, i ≤ m → evl (pc B q m) i = wd B q i
  | 0, _ => rfl
  | i + 1, h => by
    show evl (pc B q m) i * 256 + pc B q m i = wd B q i * 256 + B (q + i)
    rw [evl_wd (by omega)]
    unfold pc
    rw [if_pos (by omega)]
theorem evl_pad {B : Nat → Int} {q m i : Nat} (h : m ≤ i) : evl (pc B q m) (i + 1) = evl (pc B q m) i * 256 + 32 := by
  show evl (pc B q m) i * 256 + pc B q m i = _
  unfold pc
  rw [if_neg (by omega)]
theorem wd_rng {B : Nat → Int} (hB : ∀ q, 0 ≤ B q ∧ B q ≤ 255) {q : Nat} : ∀ l : Nat, 0 ≤ wd B q l ∧ wd B q l < 256 ^ l
  | 0 => by
    have e : wd B q 0 = 0 := rfl
    rw [e]
    decide
  | l + 1 => by
    have h := wd_rng hB (q := q) l
    have b := hB (q + l)
    have e : (256 : Int) ^ (l + 1) = 256 ^ l * 256 := Int.pow_succ 256 l
    show 0 ≤ wd B q l * 256 + B (q + l) ∧ wd B q l * 256 + B (q + l) < _
    rw [e]
    omega
theorem ww_0 {w : Int} (h0 : 0 ≤ w) (h1 : w ≤ 0) : ∀ k, k < 25 → (w = rwd.getD k 0 ↔ w * 72057594037927936 + 9042521604759584 = rwp.getD k 0)
  | 0, _ => by show w = 1819238756 ↔ w * 72057594037927936 + 9042521604759584 = 30521761567088672; omega
  | 1, _ => by show w = 1735356260 ↔ w * 72057594037927936 + 9042521604759584 = 29114446813077536; omega
  | 2, _ => by show w = 495874696043 ↔ w * 72057594037927936 + 9042521604759584 = 32497644079882272; omega
  | 3, _ => by show w = 512735736947 ↔ w * 72057594037927936 + 9042521604759584 = 33602649256566816; omega
  | 4, _ => by show w = 1700885619 ↔ w * 72057594037927936 + 9042521604759584 = 28536125423362080; omega
  | 5, _ => by show w = 469785863539 ↔ w * 72057594037927936 + 9042521604759584 = 30787886352900128; omega
  | 6, _ => by show w = 7168366 ↔ w * 72057594037927936 + 9042521604759584 = 30787898074734624; omega
  | 7, _ => by show w = 120299675936115 ↔ w * 72057594037927936 + 9042521604759584 = 30796717039645472; omega
  | 8, _ => by show w = 114827585545331 ↔ w * 72057594037927936 + 9042521604759584 = 29395861899604768; omega
  | 9, _ => by show w = 422541682035 ↔ w * 72057594037927936 + 9042521604759584 = 27691691673853984; omega
  | 10, _ => by show w = 131260432541043 ↔ w * 72057594037927936 + 9042521604759584 = 33602670730507040; omega
  | 11, _ => by show w = 1684628851 ↔ w * 72057594037927936 + 9042521604759584 = 28263382115164192; omega
  | 12, _ => by show w = 6578553 ↔ w * 72057594037927936 + 9042521604759584 = 28254670528978976; omega
  | 13, _ => by show w = 28530 ↔ w * 72057594037927936 + 9042521604759584 = 31369204718379040; omega
  | 14, _ => by show w = 6385252 ↔ w * 72057594037927936 + 9042521604759584 = 27424449055694880; omega
  | 15, _ => by show w = 7237492 ↔ w * 72057594037927936 + 9042521604759584 = 31084791984037920; omega
  | 16, _ => by show w = 119165535610212 ↔ w * 72057594037927936 + 9042521604759584 = 30506377116214304; omega
  | 17, _ => by show w = 29395861899601252 ↔ w * 72057594037927936 + 9042521604759584 = 29395861899601252; omega
  | 18, _ => by show w = 1835099237 ↔ w * 72057594037927936 + 9042521604759584 = 30787856282689568; omega
  | 19, _ => by show w = 435426714990 ↔ w * 72057594037927936 + 9042521604759584 = 28536125193592864; omega
  | 20, _ => by show w = 439721161573 ↔ w * 72057594037927936 + 9042521604759584 = 28817566044856352; omega
  | 21, _ => by show w = 1852137842 ↔ w * 72057594037927936 + 9042521604759584 = 31073716639113248; omega
  | 22, _ => by show w = 6709618 ↔ w * 72057594037927936 + 9042521604759584 = 28817590417629216; omega
  | 23, _ => by show w = 27991845698233700 ↔ w * 72057594037927936 + 9042521604759584 = 27991845698233700; omega
  | 24, _ => by show w = 121450625394034 ↔ w * 72057594037927936 + 9042521604759584 = 31091360100872736; omega
  | k + 25, h => absurd h (by omega)
theorem ww_1 {w : Int} (h0 : 97 ≤ w) (h1 : w ≤ 122) (h2 : 97 ≤ w % 256) : ∀ k, k < 25 → (w = rwd.getD k 0 ↔ w * 281474976710656 + 35322350018592 = rwp.getD k 0)
  | 0, _ => by show w = 1819238756 ↔ w * 281474976710656 + 35322350018592 = 30521761567088672; omega
  | 1, _ => by show w = 1735356260 ↔ w * 281474976710656 + 35322350018592 = 29114446813077536; omega
  | 2, _ => by show w = 495874696043 ↔ w * 281474976710656 + 35322350018592 = 32497644079882272; omega
  | 3, _ => by show w = 512735736947 ↔ w * 281474976710656 + 35322350018592 = 33602649256566816; omega
  | 4, _ => by show w = 1700885619 ↔ w * 281474976710656 + 35322350018592 = 28536125423362080; omega
  | 5, _ => by show w = 469785863539 ↔ w * 281474976710656 + 35322350018592 = 30787886352900128; omega
  | 6, _ => by show w = 7168366 ↔ w * 281474976710656 + 35322350018592 = 30787898074734624; omega
  | 7, _ => by show w = 120299675936115 ↔ w * 281474976710656 + 35322350018592 = 30796717039645472; omega
  | 8, _ => by show w = 114827585545331 ↔ w * 281474976710656 + 35322350018592 = 29395861899604768; omega
  | 9, _ => by show w = 422541682035 ↔ w * 281474976710656 + 35322350018592 = 27691691673853984; omega
  | 10, _ => by show w = 131260432541043 ↔ w * 281474976710656 + 35322350018592 = 33602670730507040; omega
  | 11, _ => by show w = 1684628851 ↔ w * 281474976710656 + 35322350018592 = 28263382115164192; omega
  | 12, _ => by show w = 6578553 ↔ w * 281474976710656 + 35322350018592 = 28254670528978976; omega
  | 13, _ => by show w = 28530 ↔ w * 281474976710656 + 35322350018592 = 31369204718379040; omega
  | 14, _ => by show w = 6385252 ↔ w * 281474976710656 + 35322350018592 = 27424449055694880; omega
  | 15, _ => by show w = 7237492 ↔ w * 281474976710656 + 35322350018592 = 31084791984037920; omega
  | 16, _ => by show w = 119165535610212 ↔ w * 281474976710656 + 35322350018592 = 30506377116214304; omega
  | 17, _ => by show w = 29395861899601252 ↔ w * 281474976710656 + 35322350018592 = 29395861899601252; omega
  | 18, _ => by show w = 1835099237 ↔ w * 281474976710656 + 35322350018592 = 30787856282689568; omega
  | 19, _ => by show w = 435426714990 ↔ w * 281474976710656 + 35322350018592 = 28536125193592864; omega
  | 20, _ => by show w = 439721161573 ↔ w * 281474976710656 + 35322350018592 = 28817566044856352; omega
  | 21, _ => by show w = 1852137842 ↔ w * 281474976710656 + 35322350018592 = 31073716639113248; omega
  | 22, _ => by show w = 6709618 ↔ w * 281474976710656 + 35322350018592 = 28817590417629216; omega
  | 23, _ => by show w = 27991845698233700 ↔ w * 281474976710656 + 35322350018592 = 27991845698233700; omega
  | 24, _ => by show w = 121450625394034 ↔ w * 281474976710656 + 35322350018592 = 31091360100872736; omega
  | k + 25, h => absurd h (by omega)
theorem ww_2 {w : Int} (h0 : 24929 ≤ w) (h1 : w ≤ 31354) (h2 : 97 ≤ w % 256) : ∀ k, k < 25 → (w = rwd.getD k 0 ↔ w * 1099511627776 + 137977929760 = rwp.getD k 0)
  | 0, _ => by show w = 1819238756 ↔ w * 1099511627776 + 137977929760 = 30521761567088672; omega
  | 1, _ => by show w = 1735356260 ↔ w * 1099511627776 + 137977929760 = 29114446813077536; omega
  | 2, _ => by show w = 495874696043 ↔ w * 1099511627776 + 137977929760 = 32497644079882272; omega
  | 3, _ => by show w = 512735736947 ↔ w * 1099511627776 + 137977929760 = 33602649256566816; omega
  | 4, _ => by show w = 1700885619 ↔ w * 1099511627776 + 137977929760 = 28536125423362080; omega
  | 5, _ => by show w = 469785863539 ↔ w * 1099511627776 + 137977929760 = 30787886352900128; omega
  | 6, _ => by show w = 7168366 ↔ w * 1099511627776 + 137977929760 = 30787898074734624; omega
  | 7, _ => by show w = 120299675936115 ↔ w * 1099511627776 + 137977929760 = 30796717039645472; omega
  | 8, _ => by show w = 114827585545331 ↔ w * 1099511627776 + 137977929760 = 29395861899604768; omega
  | 9, _ => by show w = 422541682035 ↔ w * 1099511627776 + 137977929760 = 27691691673853984; omega
  | 10, _ => by show w = 131260432541043 ↔ w * 1099511627776 + 137977929760 = 33602670730507040; omega
  | 11, _ => by show w = 1684628851 ↔ w * 1099511627776 + 137977929760 = 28263382115164192; omega
  | 12, _ => by show w = 6578553 ↔ w * 1099511627776 + 137977929760 = 28254670528978976; omega
  | 13, _ => by show w = 28530 ↔ w * 1099511627776 + 137977929760 = 31369204718379040; omega
  | 14, _ => by show w = 6385252 ↔ w * 1099511627776 + 137977929760 = 27424449055694880; omega
  | 15, _ => by show w = 7237492 ↔ w * 1099511627776 + 137977929760 = 31084791984037920; omega
  | 16, _ => by show w = 119165535610212 ↔ w * 1099511627776 + 137977929760 = 30506377116214304; omega
  | 17, _ => by show w = 29395861899601252 ↔ w * 1099511627776 + 137977929760 = 29395861899601252; omega
  | 18, _ => by show w = 1835099237 ↔ w * 1099511627776 + 137977929760 = 30787856282689568; omega
  | 19, _ => by show w = 435426714990 ↔ w * 1099511627776 + 137977929760 = 28536125193592864; omega
  | 20, _ => by show w = 439721161573 ↔ w * 1099511627776 + 137977929760 = 28817566044856352; omega
  | 21, _ => by show w = 1852137842 ↔ w * 1099511627776 + 137977929760 = 31073716639113248; omega
  | 22, _ => by show w = 6709618 ↔ w * 1099511627776 + 137977929760 = 28817590417629216; omega
  | 23, _ => by show w = 27991845698233700 ↔ w * 1099511627776 + 137977929760 = 27991845698233700; omega
  | 24, _ => by show w = 121450625394034 ↔ w * 1099511627776 + 137977929760 = 31091360100872736; omega
  | k + 25, h => absurd h (by omega)
theorem ww_3 {w : Int} (h0 : 6381921 ≤ w) (h1 : w ≤ 8026746) (h2 : 97 ≤ w % 256) : ∀ k, k < 25 → (w = rwd.getD k 0 ↔ w * 4294967296 + 538976288 = rwp.getD k 0)
  | 0, _ => by show w = 1819238756 ↔ w * 4294967296 + 538976288 = 30521761567088672; omega
  | 1, _ => by show w = 1735356260 ↔ w * 4294967296 + 538976288 = 29114446813077536; omega
  | 2, _ => by show w = 495874696043 ↔ w * 4294967296 + 538976288 = 32497644079882272; omega
  | 3, _ => by show w = 512735736947 ↔ w * 4294967296 + 538976288 = 33602649256566816; omega
  | 4, _ => by show w = 1700885619 ↔ w * 4294967296 + 538976288 = 28536125423362080; omega
  | 5, _ => by show w = 469785863539 ↔ w * 4294967296 + 538976288 = 30787886352900128; omega
  | 6, _ => by show w = 7168366 ↔ w * 4294967296 + 538976288 = 30787898074734624; omega
  | 7, _ => by show w = 120299675936115 ↔ w * 4294967296 + 538976288 = 30796717039645472; omega
  | 8, _ => by show w = 114827585545331 ↔ w * 4294967296 + 538976288 = 29395861899604768; omega
  | 9, _ => by show w = 422541682035 ↔ w * 4294967296 + 538976288 = 27691691673853984; omega
  | 10, _ => by show w = 131260432541043 ↔ w * 4294967296 + 538976288 = 33602670730507040; omega
  | 11, _ => by show w = 1684628851 ↔ w * 4294967296 + 538976288 = 28263382115164192; omega
  | 12, _ => by show w = 6578553 ↔ w * 4294967296 + 538976288 = 28254670528978976; omega
  | 13, _ => by show w = 28530 ↔ w * 4294967296 + 538976288 = 31369204718379040; omega
  | 14, _ => by show w = 6385252 ↔ w * 4294967296 + 538976288 = 27424449055694880; omega
  | 15, _ => by show w = 7237492 ↔ w * 4294967296 + 538976288 = 31084791984037920; omega
  | 16, _ => by show w = 119165535610212 ↔ w * 4294967296 + 538976288 = 30506377116214304; omega
  | 17, _ => by show w = 29395861899601252 ↔ w * 4294967296 + 538976288 = 29395861899601252; omega
  | 18, _ => by show w = 1835099237 ↔ w * 4294967296 + 538976288 = 30787856282689568; omega
  | 19, _ => by show w = 435426714990 ↔ w * 4294967296 + 538976288 = 28536125193592864; omega
  | 20, _ => by show w = 439721161573 ↔ w * 4294967296 + 538976288 = 28817566044856352; omega
  | 21, _ => by show w = 1852137842 ↔ w * 4294967296 + 538976288 = 31073716639113248; omega
  | 22, _ => by show w = 6709618 ↔ w * 4294967296 + 538976288 = 28817590417629216; omega
  | 23, _ => by show w = 27991845698233700 ↔ w * 4294967296 + 538976288 = 27991845698233700; omega
  | 24, _ => by show w = 121450625394034 ↔ w * 4294967296 + 538976288 = 31091360100872736; omega
  | k + 25, h => absurd h (by omega)
theorem ww_4 {w : Int} (h0 : 1633771873 ≤ w) (h1 : w ≤ 2054847098) (h2 : 97 ≤ w % 256) : ∀ k, k < 25 → (w = rwd.getD k 0 ↔ w * 16777216 + 2105376 = rwp.getD k 0)
  | 0, _ => by show w = 1819238756 ↔ w * 16777216 + 2105376 = 30521761567088672; omega
  | 1, _ => by show w = 1735356260 ↔ w * 16777216 + 2105376 = 29114446813077536; omega
  | 2, _ => by show w = 495874696043 ↔ w * 16777216 + 2105376 = 32497644079882272; omega
  | 3, _ => by show w = 512735736947 ↔ w * 16777216 + 2105376 = 33602649256566816; omega
  | 4, _ => by show w = 1700885619 ↔ w * 16777216 + 2105376 = 28536125423362080; omega
  | 5, _ => by show w = 469785863539 ↔ w * 16777216 + 2105376 = 30787886352900128; omega
  | 6, _ => by show w = 7168366 ↔ w * 16777216 + 2105376 = 30787898074734624; omega
  | 7, _ => by show w = 120299675936115 ↔ w * 16777216 + 2105376 = 30796717039645472; omega
  | 8, _ => by show w = 114827585545331 ↔ w * 16777216 + 2105376 = 29395861899604768; omega
  | 9, _ => by show w = 422541682035 ↔ w * 16777216 + 2105376 = 27691691673853984; omega
  | 10, _ => by show w = 131260432541043 ↔ w * 16777216 + 2105376 = 33602670730507040; omega
  | 11, _ => by show w = 1684628851 ↔ w * 16777216 + 2105376 = 28263382115164192; omega
  | 12, _ => by show w = 6578553 ↔ w * 16777216 + 2105376 = 28254670528978976; omega
  | 13, _ => by show w = 28530 ↔ w * 16777216 + 2105376 = 31369204718379040; omega
  | 14, _ => by show w = 6385252 ↔ w * 16777216 + 2105376 = 27424449055694880; omega
  | 15, _ => by show w = 7237492 ↔ w * 16777216 + 2105376 = 31084791984037920; omega
  | 16, _ => by show w = 119165535610212 ↔ w * 16777216 + 2105376 = 30506377116214304; omega
  | 17, _ => by show w = 29395861899601252 ↔ w * 16777216 + 2105376 = 29395861899601252; omega
  | 18, _ => by show w = 1835099237 ↔ w * 16777216 + 2105376 = 30787856282689568; omega
  | 19, _ => by show w = 435426714990 ↔ w * 16777216 + 2105376 = 28536125193592864; omega
  | 20, _ => by show w = 439721161573 ↔ w * 16777216 + 2105376 = 28817566044856352; omega
  | 21, _ => by show w = 1852137842 ↔ w * 16777216 + 2105376 = 31073716639113248; omega
  | 22, _ => by show w = 6709618 ↔ w * 16777216 + 2105376 = 28817590417629216; omega
  | 23, _ => by show w = 27991845698233700 ↔ w * 16777216 + 2105376 = 27991845698233700; omega
  | 24, _ => by show w = 121450625394034 ↔ w * 16777216 + 2105376 = 31091360100872736; omega
  | k + 25, h => absurd h (by omega)
theorem ww_5 {w : Int} (h0 : 418245599585 ≤ w) (h1 : w ≤ 526040857210) (h2 : 97 ≤ w % 256) : ∀ k, k < 25 → (w = rwd.getD k 0 ↔ w * 65536 + 8224 = rwp.getD k 0)
  | 0, _ => by show w = 1819238756 ↔ w * 65536 + 8224 = 30521761567088672; omega
  | 1, _ => by show w = 1735356260 ↔ w * 65536 + 8224 = 29114446813077536; omega
  | 2, _ => by show w = 495874696043 ↔ w * 65536 + 8224 = 32497644079882272; omega
  | 3, _ => by show w = 512735736947 ↔ w * 65536 + 8224 = 33602649256566816; omega
  | 4, _ => by show w = 1700885619 ↔ w * 65536 + 8224 = 28536125423362080; omega
  | 5, _ => by show w = 469785863539 ↔ w * 65536 + 8224 = 30787886352900128; omega
  | 6, _ => by show w = 7168366 ↔ w * 65536 + 8224 = 30787898074734624; omega
  | 7, _ => by show w = 120299675936115 ↔ w * 65536 + 8224 = 30796717039645472; omega
  | 8, _ => by show w = 114827585545331 ↔ w * 65536 + 8224 = 29395861899604768; omega
  | 9, _ => by show w = 422541682035 ↔ w * 65536 + 8224 = 27691691673853984; omega
  | 10, _ => by show w = 131260432541043 ↔ w * 65536 + 8224 = 33602670730507040; omega
  | 11, _ => by show w = 1684628851 ↔ w * 65536 + 8224 = 28263382115164192; omega
  | 12, _ => by show w = 6578553 ↔ w * 65536 + 8224 = 28254670528978976; omega
  | 13, _ => by show w = 28530 ↔ w * 65536 + 8224 = 31369204718379040; omega
  | 14, _ => by show w = 6385252 ↔ w * 65536 + 8224 = 27424449055694880; omega
  | 15, _ => by show w = 7237492 ↔ w * 65536 + 8224 = 31084791984037920; omega
  | 16, _ => by show w = 119165535610212 ↔ w * 65536 + 8224 = 30506377116214304; omega
  | 17, _ => by show w = 29395861899601252 ↔ w * 65536 + 8224 = 29395861899601252; omega
  | 18, _ => by show w = 1835099237 ↔ w * 65536 + 8224 = 30787856282689568; omega
  | 19, _ => by show w = 435426714990 ↔ w * 65536 + 8224 = 28536125193592864; omega
  | 20, _ => by show w = 439721161573 ↔ w * 65536 + 8224 = 28817566044856352; omega
  | 21, _ => by show w = 1852137842 ↔ w * 65536 + 8224 = 31073716639113248; omega
  | 22, _ => by show w = 6709618 ↔ w * 65536 + 8224 = 28817590417629216; omega
  | 23, _ => by show w = 27991845698233700 ↔ w * 65536 + 8224 = 27991845698233700; omega
  | 24, _ => by show w = 121450625394034 ↔ w * 65536 + 8224 = 31091360100872736; omega
  | k + 25, h => absurd h (by omega)
theorem ww_6 {w : Int} (h0 : 107070873493857 ≤ w) (h1 : w ≤ 134666459445882) (h2 : 97 ≤ w % 256) : ∀ k, k < 25 → (w = rwd.getD k 0 ↔ w * 256 + 32 = rwp.getD k 0)
  | 0, _ => by show w = 1819238756 ↔ w * 256 + 32 = 30521761567088672; omega
  | 1, _ => by show w = 1735356260 ↔ w * 256 + 32 = 29114446813077536; omega
  | 2, _ => by show w = 495874696043 ↔ w * 256 + 32 = 32497644079882272; omega
  | 3, _ => by show w = 512735736947 ↔ w * 256 + 32 = 33602649256566816; omega
  | 4, _ => by show w = 1700885619 ↔ w * 256 + 32 = 28536125423362080; omega
  | 5, _ => by show w = 469785863539 ↔ w * 256 + 32 = 30787886352900128; omega
  | 6, _ => by show w = 7168366 ↔ w * 256 + 32 = 30787898074734624; omega
  | 7, _ => by show w = 120299675936115 ↔ w * 256 + 32 = 30796717039645472; omega
  | 8, _ => by show w = 114827585545331 ↔ w * 256 + 32 = 29395861899604768; omega
  | 9, _ => by show w = 422541682035 ↔ w * 256 + 32 = 27691691673853984; omega
  | 10, _ => by show w = 131260432541043 ↔ w * 256 + 32 = 33602670730507040; omega
  | 11, _ => by show w = 1684628851 ↔ w * 256 + 32 = 28263382115164192; omega
  | 12, _ => by show w = 6578553 ↔ w * 256 + 32 = 28254670528978976; omega
  | 13, _ => by show w = 28530 ↔ w * 256 + 32 = 31369204718379040; omega
  | 14, _ => by show w = 6385252 ↔ w * 256 + 32 = 27424449055694880; omega
  | 15, _ => by show w = 7237492 ↔ w * 256 + 32 = 31084791984037920; omega
  | 16, _ => by show w = 119165535610212 ↔ w * 256 + 32 = 30506377116214304; omega
  | 17, _ => by show w = 29395861899601252 ↔ w * 256 + 32 = 29395861899601252; omega
  | 18, _ => by show w = 1835099237 ↔ w * 256 + 32 = 30787856282689568; omega
  | 19, _ => by show w = 435426714990 ↔ w * 256 + 32 = 28536125193592864; omega
  | 20, _ => by show w = 439721161573 ↔ w * 256 + 32 = 28817566044856352; omega
  | 21, _ => by show w = 1852137842 ↔ w * 256 + 32 = 31073716639113248; omega
  | 22, _ => by show w = 6709618 ↔ w * 256 + 32 = 28817590417629216; omega
  | 23, _ => by show w = 27991845698233700 ↔ w * 256 + 32 = 27991845698233700; omega
  | 24, _ => by show w = 121450625394034 ↔ w * 256 + 32 = 31091360100872736; omega
  | k + 25, h => absurd h (by omega)
theorem ww_7 {w : Int} (h0 : 27410143614427489 ≤ w) (h1 : w ≤ 34474613618145914) (h2 : 97 ≤ w % 256) : ∀ k, k < 25 → (w = rwd.getD k 0 ↔ w * 1 + 0 = rwp.getD k 0)
  | 0, _ => by show w = 1819238756 ↔ w * 1 + 0 = 30521761567088672; omega
  | 1, _ => by show w = 1735356260 ↔ w * 1 + 0 = 29114446813077536; omega
  | 2, _ => by show w = 495874696043 ↔ w * 1 + 0 = 32497644079882272; omega
  | 3, _ => by show w = 512735736947 ↔ w * 1 + 0 = 33602649256566816; omega
  | 4, _ => by show w = 1700885619 ↔ w * 1 + 0 = 28536125423362080; omega
  | 5, _ => by show w = 469785863539 ↔ w * 1 + 0 = 30787886352900128; omega
  | 6, _ => by show w = 7168366 ↔ w * 1 + 0 = 30787898074734624; omega
  | 7, _ => by show w = 120299675936115 ↔ w * 1 + 0 = 30796717039645472; omega
  | 8, _ => by show w = 114827585545331 ↔ w * 1 + 0 = 29395861899604768; omega
  | 9, _ => by show w = 422541682035 ↔ w * 1 + 0 = 27691691673853984; omega
  | 10, _ => by show w = 131260432541043 ↔ w * 1 + 0 = 33602670730507040; omega
  | 11, _ => by show w = 1684628851 ↔ w * 1 + 0 = 28263382115164192; omega
  | 12, _ => by show w = 6578553 ↔ w * 1 + 0 = 28254670528978976; omega
  | 13, _ => by show w = 28530 ↔ w * 1 + 0 = 31369204718379040; omega
  | 14, _ => by show w = 6385252 ↔ w * 1 + 0 = 27424449055694880; omega
  | 15, _ => by show w = 7237492 ↔ w * 1 + 0 = 31084791984037920; omega
  | 16, _ => by show w = 119165535610212 ↔ w * 1 + 0 = 30506377116214304; omega
  | 17, _ => by show w = 29395861899601252 ↔ w * 1 + 0 = 29395861899601252; omega
  | 18, _ => by show w = 1835099237 ↔ w * 1 + 0 = 30787856282689568; omega
  | 19, _ => by show w = 435426714990 ↔ w * 1 + 0 = 28536125193592864; omega
  | 20, _ => by show w = 439721161573 ↔ w * 1 + 0 = 28817566044856352; omega
  | 21, _ => by show w = 1852137842 ↔ w * 1 + 0 = 31073716639113248; omega
  | 22, _ => by show w = 6709618 ↔ w * 1 + 0 = 28817590417629216; omega
  | 23, _ => by show w = 27991845698233700 ↔ w * 1 + 0 = 27991845698233700; omega
  | 24, _ => by show w = 121450625394034 ↔ w * 1 + 0 = 31091360100872736; omega
  | k + 25, h => absurd h (by omega)
theorem wd_lo {B : Nat → Int} {q : Nat} : ∀ {l : Nat}, allP tk_l B q l = true → l ≤ 7 → (l = 0 → wd B q l = 0) ∧ (1 ≤ l → 97 ≤ wd B q l % 256) ∧ (l = 1 → 97 ≤ wd B q l ∧ wd B q l ≤ 122) ∧ (l = 2 → 24929 ≤ wd B q l ∧ wd B q l ≤ 31354) ∧ (l = 3 → 6381921 ≤ wd B q l ∧ wd B q l ≤ 8026746) ∧ (l = 4 → 1633771873 ≤ wd B q l ∧ wd B q l ≤ 2054847098) ∧ (l = 5 → 418245599585 ≤ wd B q l ∧ wd B q l ≤ 526040857210) ∧ (l = 6 → 107070873493857 ≤ wd B q l ∧ wd B q l ≤ 134666459445882) ∧ (l = 7 → 27410143614427489 ≤ wd B q l ∧ wd B q l ≤ 34474613618145914)
  | 0, _, _ => by
    refine ⟨fun _ => rfl, fun h => absurd h (by omega), fun h => absurd h (by omega), fun h => absurd h (by omega), fun h => absurd h (by omega), fun h => absurd h (by omega), fun h => absurd h (by omega), fun h => absurd h (by omega), fun h => absurd h (by omega)⟩
  | l + 1, h, hl => by
    have h' : (allP tk_l B q l && tk_l (B (q + l))) = true := h
    obtain ⟨h1, h2⟩ : allP tk_l B q l = true ∧ tk_l (B (q + l)) = true := by simpa using h'
    obtain ⟨i0, iz, i1, i2, i3, i4, i5, i6, i7⟩ := wd_lo h1 (by omega)
    have h3 := tk_l_i h2
    have e : wd B q (l + 1) = wd B q l * 256 + B (q + l) := rfl
    rw [e]
    rcases (show l = 0 ∨ l = 1 ∨ l = 2 ∨ l = 3 ∨ l = 4 ∨ l = 5 ∨ l = 6 by omega) with c | c | c | c | c | c | c
    all_goals
      subst c
      refine ⟨fun g => by omega, fun g => by omega, fun g => by omega, fun g => by omega, fun g => by omega, fun g => by omega, fun g => by omega, fun g => by omega, fun g => by omega⟩
theorem wd_word {B : Nat → Int} {q m k : Nat} (h : allP tk_l B q m = true) (hm : m ≤ 7) (hk : k < 25) : wd B q m = rwd.getD k 0 ↔ kw (pv B q m) = 64 + (k : Int) := by
  rw [kw_iff hk]
  obtain ⟨i0, iz, i1, i2, i3, i4, i5, i6, i7⟩ := wd_lo h hm
  have e0 := evl_wd (B := B) (q := q) (m := m) (i := m) (Nat.le_refl m)
  unfold pv
  rcases (show m = 0 ∨ m = 1 ∨ m = 2 ∨ m = 3 ∨ m = 4 ∨ m = 5 ∨ m = 6 ∨ m = 7 by omega) with c | c | c | c | c | c | c | c
  · subst c
    have p0 : evl (pc B q 0) 1 = evl (pc B q 0) 0 * 256 + 32 := evl_pad (by omega)
    have p1 : evl (pc B q 0) 2 = evl (pc B q 0) 1 * 256 + 32 := evl_pad (by omega)
    have p2 : evl (pc B q 0) 3 = evl (pc B q 0) 2 * 256 + 32 := evl_pad (by omega)
    have p3 : evl (pc B q 0) 4 = evl (pc B q 0) 3 * 256 + 32 := evl_pad (by omega)
    have p4 : evl (pc B q 0) 5 = evl (pc B q 0) 4 * 256 + 32 := evl_pad (by omega)
    have p5 : evl (pc B q 0) 6 = evl (pc B q 0) 5 * 256 + 32 := evl_pad (by omega)
    have p6 : evl (pc B q 0) 7 = evl (pc B q 0) 6 * 256 + 32 := evl_pad (by omega)
    have E : evl (pc B q 0) 7 = wd B q 0 * 72057594037927936 + 9042521604759584 := by omega
    rw [E]
    exact ww_0 (by omega) (by omega) k hk
  · subst c
    have p1 : evl (pc B q 1) 2 = evl (pc B q 1) 1 * 256 + 32 := evl_pad (by omega)
    have p2 : evl (pc B q 1) 3 = evl (pc B q 1) 2 * 256 + 32 := evl_pad (by omega)
    have p3 : evl (pc B q 1) 4 = evl (pc B q 1) 3 * 256 + 32 := evl_pad (by omega)
    have p4 : evl (pc B q 1) 5 = evl (pc B q 1) 4 * 256 + 32 := evl_pad (by omega)
    have p5 : evl (pc B q 1) 6 = evl (pc B q 1) 5 * 256 + 32 := evl_pad (by omega)
    have p6 : evl (pc B q 1) 7 = evl (pc B q 1) 6 * 256 + 32 := evl_pad (by omega)
    have E : evl (pc B q 1) 7 = wd B q 1 * 281474976710656 + 35322350018592 := by omega
    rw [E]
    exact ww_1 (by omega) (by omega) (by omega) k hk
  · subst c
    have p2 : evl (pc B q 2) 3 = evl (pc B q 2) 2 * 256 + 32 := evl_pad (by omega)
    have p3 : evl (pc B q 2) 4 = evl (pc B q 2) 3 * 256 + 32 := evl_pad (by omega)
    have p4 : evl (pc B q 2) 5 = evl (pc B q 2) 4 * 256 + 32 := evl_pad (by omega)
    have p5 : evl (pc B q 2) 6 = evl (pc B q 2) 5 * 256 + 32 := evl_pad (by omega)
    have p6 : evl (pc B q 2) 7 = evl (pc B q 2) 6 * 256 + 32 := evl_pad (by omega)
    have E : evl (pc B q 2) 7 = wd B q 2 * 1099511627776 + 137977929760 := by omega
    rw [E]
    exact ww_2 (by omega) (by omega) (by omega) k hk
  · subst c
    have p3 : evl (pc B q 3) 4 = evl (pc B q 3) 3 * 256 + 32 := evl_pad (by omega)
    have p4 : evl (pc B q 3) 5 = evl (pc B q 3) 4 * 256 + 32 := evl_pad (by omega)
    have p5 : evl (pc B q 3) 6 = evl (pc B q 3) 5 * 256 + 32 := evl_pad (by omega)
    have p6 : evl (pc B q 3) 7 = evl (pc B q 3) 6 * 256 + 32 := evl_pad (by omega)
    have E : evl (pc B q 3) 7 = wd B q 3 * 4294967296 + 538976288 := by omega
    rw [E]
    exact ww_3 (by omega) (by omega) (by omega) k hk
  · subst c
    have p4 : evl (pc B q 4) 5 = evl (pc B q 4) 4 * 256 + 32 := evl_pad (by omega)
    have p5 : evl (pc B q 4) 6 = evl (pc B q 4) 5 * 256 + 32 := evl_pad (by omega)
    have p6 : evl (pc B q 4) 7 = evl (pc B q 4) 6 * 256 + 32 := evl_pad (by omega)
    have E : evl (pc B q 4) 7 = wd B q 4 * 16777216 + 2105376 := by omega
    rw [E]
    exact ww_4 (by omega) (by omega) (by omega) k hk
  · subst c
    have p5 : evl (pc B q 5) 6 = evl (pc B q 5) 5 * 256 + 32 := evl_pad (by omega)
    have p6 : evl (pc B q 5) 7 = evl (pc B q 5) 6 * 256 + 32 := evl_pad (by omega)
    have E : evl (pc B q 5) 7 = wd B q 5 * 65536 + 8224 := by omega
    rw [E]
    exact ww_5 (by omega) (by omega) (by omega) k hk
  · subst c
    have p6 : evl (pc B q 6) 7 = evl (pc B q 6) 6 * 256 + 32 := evl_pad (by omega)
    have E : evl (pc B q 6) 7 = wd B q 6 * 256 + 32 := by omega
    rw [E]
    exact ww_6 (by omega) (by omega) (by omega) k hk
  · subst c
    have E : evl (pc B q 7) 7 = wd B q 7 * 1 + 0 := by omega
    rw [E]
    exact ww_7 (by omega) (by omega) (by omega) k hk
def WOK (T : TT) : Prop := (T.k = 2 ∨ 64 ≤ T.k) → LW 7 T.v ∧ ∀ k, k < 25 → (T.v = rwd.getD k 0 ↔ T.k = 64 + (k : Int))
theorem trn_wok (B : Nat → Int) (q m : Nat) : WOK (trn B q m) := by
  unfold WOK trn
  split
  · next h => exact fun _ => ⟨(wd_nm h.1 h.2).1, fun k hk => wd_word h.1 h.2 hk⟩
  · split
    · intro h
      have h' : (3 : Int) = 2 ∨ (64 : Int) ≤ 3 := h
      omega
    · intro h
      have h' : (1 : Int) = 2 ∨ (64 : Int) ≤ 1 := h
      omega
theorem tkq_wok (B : Nat → Int) (n lim q : Nat) : WOK (tkq B n lim q) := by
  unfold tkq
  split
  · intro h
    have h' : (1 : Int) = 2 ∨ (64 : Int) ≤ 1 := h
    omega
  · split
    · intro h
      have h' : (0 : Int) = 2 ∨ (64 : Int) ≤ 0 := h
      omega
    · split
      · exact trn_wok _ _ _
      · intro h
        have h' : tsg (B q) = 2 ∨ 64 ≤ tsg (B q) := h
        exfalso
        unfold tsg at h'
        split at h'
        · next c =>
          unfold tsgp at c
          omega
        · omega
theorem tok_wok (B : Nat → Int) (n lim i : Nat) : WOK (tok B n lim i) := tkq_wok _ _ _ _
theorem allP_0 {P : Int → Bool} {B : Nat → Int} {q : Nat} : ∀ {m : Nat}, allP P B q m = true → 1 ≤ m → P (B q) = true
  | 0, _, h => absurd h (by omega)
  | 1, h, _ => by
    have h' : (true && P (B (q + 0))) = true := h
    simpa using h'
  | m + 2, h, _ => by
    have h' : (allP P B q (m + 1) && P (B (q + (m + 1)))) = true := h
    exact allP_0 (m := m + 1) (by simpa using (Bool.and_eq_true _ _ ▸ h' : allP P B q (m + 1) = true ∧ P (B (q + (m + 1))) = true).1) (by omega)
def rkk (k : Int) : Int := if k = 0 then 0 else if k = 1 ∨ k = 46 then 4 else if k = 3 then 2 else if k = 2 ∨ 64 ≤ k then 1 else 3
def NT (hp : ab_H) (T : TT) : Prop := sf_rd hp 69 12 = some T.pl ∧ sf_rd hp 69 4 = some (T.nx : Int) ∧ sf_rd hp 69 11 = some (rkk T.k) ∧ (rkk T.k = 2 → sf_rd hp 69 14 = some T.v) ∧ (rkk T.k = 3 → sf_rd hp 69 14 = some T.k) ∧ (rkk T.k = 1 → ∃ w, sf_rl hp 69 17 = some w ∧ w.toInt = T.v)
theorem tkq_n {B : Nat → Int} {n lim q : Nat} (h : q ≤ n) : (tkq B n lim q).nx ≤ n := by
  unfold tkq
  split
  · exact h
  · split
    · exact h
    · split
      · rw [trn_nx]
        have := tk_e_le (P := tk_r) (B := B) h
        have := tk_e_ge (P := tk_r) (B := B) (n := n) (p := q)
        omega
      · show q + 1 ≤ n
        omega
theorem tps_n {B : Nat → Int} {n lim : Nat} : ∀ i, tps B n lim i ≤ n
  | 0 => Nat.zero_le _
  | i + 1 => tkq_n (tk_e_le (tps_n i))
theorem tkq_none {B : Nat → Int} {n lim q : Nat} (h1 : lim < n) (h2 : lim ≤ q) : tkq B n lim q = ⟨1, lim, 0, q⟩ := by
  unfold tkq
  rw [if_pos ⟨h1, h2⟩]
theorem tkq_end {B : Nat → Int} {n lim q : Nat} (h1 : ¬ (lim < n ∧ lim ≤ q)) (h2 : n ≤ q) : tkq B n lim q = ⟨0, n, 0, q⟩ := by
  unfold tkq
  rw [if_neg h1, if_pos h2]
theorem tkq_run {B : Nat → Int} {n lim q : Nat} (h1 : ¬ (lim < n ∧ lim ≤ q)) (h2 : q < n) (h3 : tk_r (B q) = true) : tkq B n lim q = trn B q (tk_e tk_r B n q - q) := by
  unfold tkq
  rw [if_neg h1, if_neg (by omega), if_pos h3]
theorem tkq_sig {B : Nat → Int} {n lim q : Nat} (h1 : ¬ (lim < n ∧ lim ≤ q)) (h2 : q < n) (h3 : tk_r (B q) = false) : tkq B n lim q = ⟨tsg (B q), q, 0, q + 1⟩ := by
  unfold tkq
  rw [if_neg h1, if_neg (by omega), if_neg (by rw [h3]; decide)]
theorem pkB {hp : ab_H} {z : Int32} {p l : Int} {BB : Nat → Int} (h : pkR hp z) (h4 : sf_rd hp 69 4 = some p) (h3 : sf_rd hp 69 3 = some l) (h0 : 0 ≤ p) (e : bv hp 70 l.toNat = BB) : (l ≤ p ∧ z.toInt = -1) ∨ (p < l ∧ z.toInt = BB p.toNat) := by
  rw [← e]
  exact pkv h h4 h3 h0
theorem rkk_yes {c : Int} (h : c = 59 ∨ c = 40 ∨ c = 41 ∨ (60 ≤ c ∧ c ≤ 62)) : tsg c = c ∧ rkk c = 3 := by
  refine ⟨if_pos (by unfold tsgp; omega), ?_⟩
  unfold rkk
  rw [if_neg (by omega), if_neg (by omega), if_neg (by omega), if_neg (by omega)]
theorem rkk_no {c : Int} (h : ¬ (c = 59 ∨ c = 40 ∨ c = 41 ∨ (60 ≤ c ∧ c ≤ 62))) : rkk (tsg c) = 4 := by
  unfold tsg
  split
  · next g =>
    unfold tsgp at g
    have e : c = 46 := by omega
    rw [e]
    rfl
  · rfl
theorem rkk_word (v : Int) : rkk (kw v) = 1 := by
  have := kw_rng v
  unfold rkk
  rw [if_neg (by omega), if_neg (by omega), if_neg (by omega), if_pos (by omega)]
theorem tk_r_i {c : Int} (h : tk_r c = true) : (48 ≤ c ∧ c ≤ 57) ∨ (97 ≤ c ∧ c ≤ 122) := by
  unfold tk_r at h
  rcases (show tk_l c = true ∨ tk_d c = true by simpa using h) with g | g
  · exact Or.inr (tk_l_i g)
  · exact Or.inl (tk_d_i g)
theorem or_step {w : Int64} {y c : Int32} {a : Int} (hy : y.toInt = 8) (h : w.toInt = a) (a0 : 0 ≤ a) (a1 : a < 281474976710656) (c0 : 0 ≤ c.toInt) (c1 : c.toInt ≤ 255) : ((w <<< (y.toInt64 &&& 63)) ||| (c.toInt64)).toInt = a * 256 + c.toInt := by
  have ec : c.toInt64.toInt = c.toInt := Int32.toInt_toInt64 c
  rw [l_or8 hy (by omega) (by omega) (by omega) (by omega), h, ec]
theorem wd_48 {B : Nat → Int} (hB : ∀ q, 0 ≤ B q ∧ B q ≤ 255) {q l : Nat} (h : l ≤ 6) : 0 ≤ wd B q l ∧ wd B q l < 281474976710656 := by
  have h1 := wd_rng hB (q := q) l
  refine ⟨h1.1, ?_⟩
  rcases (show l = 0 ∨ l = 1 ∨ l = 2 ∨ l = 3 ∨ l = 4 ∨ l = 5 ∨ l = 6 by omega) with c | c | c | c | c | c | c
  all_goals
    subst c
    have h2 := h1.2
    simp only [Int.reducePow] at h2
    omega
end
