def p_state (Rel : z_M → z_M → Prop) : Prop := ∀ (p1 : Int32) (σ τ : z_M), Rel σ τ → ∃ (r : Int32) (σ' τ' : z_M), f11_state p1 σ = some (r, σ') ∧ f12_state p1 τ = some (r, τ') ∧ Rel σ' τ'
def p_house (Rel : z_M → z_M → Prop) : Prop := ∀ (σ τ : z_M), Rel σ τ → ∃ (r : Int32) (σ' τ' : z_M), f11_house σ = some (r, σ') ∧ f12_house τ = some (r, τ') ∧ Rel σ' τ'
def p_set (Rel : z_M → z_M → Prop) : Prop := ∀ (p1 p2 p3 : Int32) (σ τ : z_M), Rel σ τ → ∃ (r : Int32) (σ' τ' : z_M), f11_set p1 p2 p3 σ = some (r, σ') ∧ f12_set p1 p2 p3 τ = some (r, τ') ∧ Rel σ' τ'
def p_line (Rel : z_M → z_M → Prop) : Prop := ∀ (p1 p2 p3 : Int32) (σ τ : z_M), (p3 = 0 ∨ p3 = 1) → Rel σ τ → ∃ (r : Int32) (σ' τ' : z_M), f11_line p1 p2 p3 σ = some (r, σ') ∧ f12_line p1 p2 p3 τ = some (r, τ') ∧ Rel σ' τ'
def p_feed (Rel : z_M → z_M → Prop) : Prop := ∀ (p1 p2 p3 p4 p5 : Int32) (σ τ : z_M), Rel σ τ → ∃ (r : Int32) (σ' τ' : z_M), f11_feed p1 p2 p3 p4 p5 σ = some (r, σ') ∧ f12_feed p1 p2 p3 p4 p5 τ = some (r, τ') ∧ Rel σ' τ'
def p_end (Rel : z_M → z_M → Prop) : Prop := ∀ (p1 : Int32) (σ τ : z_M), Rel σ τ → ∃ (r : Int32) (σ' τ' : z_M), f11_end p1 σ = some (r, σ') ∧ f12_end p1 τ = some (r, τ') ∧ Rel σ' τ'
def p_text (Rel : z_M → z_M → Prop) : Prop := ∀ (p1 : Int32) (σ τ : z_M), Rel σ τ → ∃ (r : Int32) (σ' τ' : z_M), f11_text p1 σ = some (r, σ') ∧ f12_text p1 τ = some (r, τ') ∧ Rel σ' τ'
def p_fault (Rel : z_M → z_M → Prop) : Prop := ∀ (p1 : Int32) (σ τ : z_M), Rel σ τ → ∃ (r : Int32) (σ' τ' : z_M), f11_fault p1 σ = some (r, σ') ∧ f12_fault p1 τ = some (r, τ') ∧ Rel σ' τ'
def p_pot (Rel : z_M → z_M → Prop) : Prop := ∀ (p1 p2 p3 : Int32) (σ τ : z_M), Rel σ τ → ∃ (r : Int32) (σ' τ' : z_M), f11_pot p1 p2 p3 σ = some (r, σ') ∧ f12_pot p1 p2 p3 τ = some (r, τ') ∧ Rel σ' τ'
def p_water (Rel : z_M → z_M → Prop) : Prop := ∀ (p1 p2 : Int32) (σ τ : z_M), Rel σ τ → ∃ (r : Int32) (σ' τ' : z_M), f11_water p1 p2 σ = some (r, σ') ∧ f12_water p1 p2 τ = some (r, τ') ∧ Rel σ' τ'
def p_weed (Rel : z_M → z_M → Prop) : Prop := ∀ (p1 : Int32) (σ τ : z_M), Rel σ τ → ∃ (r : Int32) (σ' τ' : z_M), f11_weed p1 σ = some (r, σ') ∧ f12_weed p1 τ = some (r, τ') ∧ Rel σ' τ'
def p_tell (Rel : z_M → z_M → Prop) : Prop := ∀ (p1 p2 p3 : Int32) (σ τ : z_M), Rel σ τ → ∃ (r : Int32) (σ' τ' : z_M), f11_tell p1 p2 p3 σ = some (r, σ') ∧ f12_tell p1 p2 p3 τ = some (r, τ') ∧ Rel σ' τ'
def p_weeks (Rel : z_M → z_M → Prop) : Prop := ∀ (p1 : Int32) (σ τ : z_M), Rel σ τ → ∃ (r : Int32) (σ' τ' : z_M), f11_weeks p1 σ = some (r, σ') ∧ f12_weeks p1 τ = some (r, τ') ∧ Rel σ' τ'
def p_of (Rel : z_M → z_M → Prop) : Prop := ∀ (p1 p2 : Int32) (σ τ : z_M), Rel σ τ → ∃ (r : Int32) (σ' τ' : z_M), f11_of p1 p2 σ = some (r, σ') ∧ f12_of p1 p2 τ = some (r, τ') ∧ Rel σ' τ'
def p_reason (Rel : z_M → z_M → Prop) : Prop := ∀ (p1 p2 : Int32) (σ τ : z_M), Rel σ τ → ∃ (r : Int32) (σ' τ' : z_M), f11_reason p1 p2 σ = some (r, σ') ∧ f12_reason p1 p2 τ = some (r, τ') ∧ Rel σ' τ'
def p_book (Rel : z_M → z_M → Prop) : Prop := ∀ (p1 p2 : Int32) (σ τ : z_M), Rel σ τ → ∃ (r : Int32) (σ' τ' : z_M), f11_book p1 p2 σ = some (r, σ') ∧ f12_book p1 p2 τ = some (r, τ') ∧ Rel σ' τ'
def p_first (Rel : z_M → z_M → Prop) : Prop := ∀ (p1 p2 : Int32) (σ τ : z_M), Rel σ τ → ∃ (r : Int32) (σ' τ' : z_M), f11_first p1 p2 σ = some (r, σ') ∧ f12_first p1 p2 τ = some (r, τ') ∧ Rel σ' τ'
def p_gives (Rel : z_M → z_M → Prop) : Prop := ∀ (p1 : Int32) (σ τ : z_M), Rel σ τ → ∃ (r : Int32) (σ' τ' : z_M), f11_gives p1 σ = some (r, σ') ∧ f12_gives p1 τ = some (r, τ') ∧ Rel σ' τ'
def p_done (Rel : z_M → z_M → Prop) : Prop := ∀ (σ τ : z_M), Rel σ τ → ∃ (r : Int32) (σ' τ' : z_M), f11_done σ = some (r, σ') ∧ f12_done τ = some (r, τ') ∧ Rel σ' τ'
def p_struck (Rel : z_M → z_M → Prop) : Prop := ∀ (p1 p2 : Int32) (σ τ : z_M), Rel σ τ → ∃ (r : Int32) (σ' τ' : z_M), f11_struck p1 p2 σ = some (r, σ') ∧ f12_struck p1 p2 τ = some (r, τ') ∧ Rel σ' τ'
def p_down (Rel : z_M → z_M → Prop) : Prop := ∀ (p1 p2 : Int32) (σ τ : z_M), Rel σ τ → ∃ (r : Int32) (σ' τ' : z_M), f11_down p1 p2 σ = some (r, σ') ∧ f12_down p1 p2 τ = some (r, τ') ∧ Rel σ' τ'
def p_by (Rel : z_M → z_M → Prop) : Prop := ∀ (p1 p2 : Int32) (σ τ : z_M), Rel σ τ → ∃ (r : Int32) (σ' τ' : z_M), f11_by p1 p2 σ = some (r, σ') ∧ f12_by p1 p2 τ = some (r, τ') ∧ Rel σ' τ'
def p_part (Rel : z_M → z_M → Prop) : Prop := ∀ (p1 p2 : Int32) (σ τ : z_M), Rel σ τ → ∃ (r : Int32) (σ' τ' : z_M), f11_part p1 p2 σ = some (r, σ') ∧ f12_part p1 p2 τ = some (r, τ') ∧ Rel σ' τ'
def p_talk (Rel : z_M → z_M → Prop) : Prop := ∀ (p1 p2 p3 : Int32) (σ τ : z_M), Rel σ τ → ∃ (r : Int32) (σ' τ' : z_M), f11_talk p1 p2 p3 σ = some (r, σ') ∧ f12_talk p1 p2 p3 τ = some (r, τ') ∧ Rel σ' τ'
def p_fits (Rel : z_M → z_M → Prop) : Prop := ∀ (p1 p2 : Int32) (σ τ : z_M), Rel σ τ → ∃ (r : Int32) (σ' τ' : z_M), f11_fits p1 p2 σ = some (r, σ') ∧ f12_fits p1 p2 τ = some (r, τ') ∧ Rel σ' τ'
def p_ask (Rel : z_M → z_M → Prop) : Prop := ∀ (p1 p2 : Int32) (σ τ : z_M), Rel σ τ → ∃ (r : Int32) (σ' τ' : z_M), f11_ask p1 p2 σ = some (r, σ') ∧ f12_ask p1 p2 τ = some (r, τ') ∧ Rel σ' τ'
def p_waters (Rel : z_M → z_M → Prop) : Prop := ∀ (p1 p2 p3 : Int32) (σ τ : z_M), Rel σ τ → ∃ (r : Int32) (σ' τ' : z_M), f11_waters p1 p2 p3 σ = some (r, σ') ∧ f12_waters p1 p2 p3 τ = some (r, τ') ∧ Rel σ' τ'
def p_game (Rel : z_M → z_M → Prop) : Prop := ∀ (p1 : Int32) (σ τ : z_M), Rel σ τ → ∃ (r : Int32) (σ' τ' : z_M), f11_game p1 σ = some (r, σ') ∧ f12_game p1 τ = some (r, τ') ∧ Rel σ' τ'
def p_greenhouses (Rel : z_M → z_M → Prop) : Prop := ∀ (p1 : Int32) (σ τ : z_M), Rel σ τ → ∃ (r : Int32) (σ' τ' : z_M), f11_greenhouses p1 σ = some (r, σ') ∧ f12_greenhouses p1 τ = some (r, τ') ∧ Rel σ' τ'
def p_undo (Rel : z_M → z_M → Prop) : Prop := ∀ (σ τ : z_M), Rel σ τ → ∃ (r : Int32) (σ' τ' : z_M), f11_undo σ = some (r, σ') ∧ f12_undo τ = some (r, τ') ∧ Rel σ' τ'
def p_image (Rel : z_M → z_M → Prop) : Prop := ∀ (p1 : Int32) (σ τ : z_M), (p1 = 0 ∨ p1 = 1) → Rel σ τ → ∃ (r : Int32) (σ' τ' : z_M), f11_image p1 σ = some (r, σ') ∧ f12_image p1 τ = some (r, τ') ∧ Rel σ' τ'
def p_look (Rel : z_M → z_M → Prop) : Prop := ∀ (p1 : Int32) (σ τ : z_M), Rel σ τ → ∃ (r : Int32) (σ' τ' : z_M), f11_look p1 σ = some (r, σ') ∧ f12_look p1 τ = some (r, τ') ∧ Rel σ' τ'
/-- the class and the reference answer alike, call by call -/
def p_ok (Rel : z_M → z_M → Prop) : Prop := p_state Rel ∧ p_house Rel ∧ p_set Rel ∧ p_line Rel ∧ p_feed Rel ∧ p_end Rel ∧ p_text Rel ∧ p_fault Rel ∧ p_pot Rel ∧ p_water Rel ∧ p_weed Rel ∧ p_tell Rel ∧ p_weeks Rel ∧ p_of Rel ∧ p_reason Rel ∧ p_book Rel ∧ p_first Rel ∧ p_gives Rel ∧ p_done Rel ∧ p_struck Rel ∧ p_down Rel ∧ p_by Rel ∧ p_part Rel ∧ p_talk Rel ∧ p_fits Rel ∧ p_ask Rel ∧ p_waters Rel ∧ p_game Rel ∧ p_greenhouses Rel ∧ p_undo Rel ∧ p_image Rel ∧ p_look Rel
theorem p_ok_state {Rel : z_M → z_M → Prop} (h : p_ok Rel) : p_state Rel := h.1
theorem p_ok_house {Rel : z_M → z_M → Prop} (h : p_ok Rel) : p_house Rel := h.2.1
theorem p_ok_set {Rel : z_M → z_M → Prop} (h : p_ok Rel) : p_set Rel := h.2.2.1
theorem p_ok_line {Rel : z_M → z_M → Prop} (h : p_ok Rel) : p_line Rel := h.2.2.2.1
theorem p_ok_feed {Rel : z_M → z_M → Prop} (h : p_ok Rel) : p_feed Rel := h.2.2.2.2.1
theorem p_ok_end {Rel : z_M → z_M → Prop} (h : p_ok Rel) : p_end Rel := h.2.2.2.2.2.1
theorem p_ok_text {Rel : z_M → z_M → Prop} (h : p_ok Rel) : p_text Rel := h.2.2.2.2.2.2.1
theorem p_ok_fault {Rel : z_M → z_M → Prop} (h : p_ok Rel) : p_fault Rel := h.2.2.2.2.2.2.2.1
theorem p_ok_pot {Rel : z_M → z_M → Prop} (h : p_ok Rel) : p_pot Rel := h.2.2.2.2.2.2.2.2.1
theorem p_ok_water {Rel : z_M → z_M → Prop} (h : p_ok Rel) : p_water Rel := h.2.2.2.2.2.2.2.2.2.1
theorem p_ok_weed {Rel : z_M → z_M → Prop} (h : p_ok Rel) : p_weed Rel := h.2.2.2.2.2.2.2.2.2.2.1
theorem p_ok_tell {Rel : z_M → z_M → Prop} (h : p_ok Rel) : p_tell Rel := h.2.2.2.2.2.2.2.2.2.2.2.1
theorem p_ok_weeks {Rel : z_M → z_M → Prop} (h : p_ok Rel) : p_weeks Rel := h.2.2.2.2.2.2.2.2.2.2.2.2.1
theorem p_ok_of {Rel : z_M → z_M → Prop} (h : p_ok Rel) : p_of Rel := h.2.2.2.2.2.2.2.2.2.2.2.2.2.1
theorem p_ok_reason {Rel : z_M → z_M → Prop} (h : p_ok Rel) : p_reason Rel := h.2.2.2.2.2.2.2.2.2.2.2.2.2.2.1
theorem p_ok_book {Rel : z_M → z_M → Prop} (h : p_ok Rel) : p_book Rel := h.2.2.2.2.2.2.2.2.2.2.2.2.2.2.2.1
theorem p_ok_first {Rel : z_M → z_M → Prop} (h : p_ok Rel) : p_first Rel := h.2.2.2.2.2.2.2.2.2.2.2.2.2.2.2.2.1
theorem p_ok_gives {Rel : z_M → z_M → Prop} (h : p_ok Rel) : p_gives Rel := h.2.2.2.2.2.2.2.2.2.2.2.2.2.2.2.2.2.1
theorem p_ok_done {Rel : z_M → z_M → Prop} (h : p_ok Rel) : p_done Rel := h.2.2.2.2.2.2.2.2.2.2.2.2.2.2.2.2.2.2.1
theorem p_ok_struck {Rel : z_M → z_M → Prop} (h : p_ok Rel) : p_struck Rel := h.2.2.2.2.2.2.2.2.2.2.2.2.2.2.2.2.2.2.2.1
theorem p_ok_down {Rel : z_M → z_M → Prop} (h : p_ok Rel) : p_down Rel := h.2.2.2.2.2.2.2.2.2.2.2.2.2.2.2.2.2.2.2.2.1
theorem p_ok_by {Rel : z_M → z_M → Prop} (h : p_ok Rel) : p_by Rel := h.2.2.2.2.2.2.2.2.2.2.2.2.2.2.2.2.2.2.2.2.2.1
theorem p_ok_part {Rel : z_M → z_M → Prop} (h : p_ok Rel) : p_part Rel := h.2.2.2.2.2.2.2.2.2.2.2.2.2.2.2.2.2.2.2.2.2.2.1
theorem p_ok_talk {Rel : z_M → z_M → Prop} (h : p_ok Rel) : p_talk Rel := h.2.2.2.2.2.2.2.2.2.2.2.2.2.2.2.2.2.2.2.2.2.2.2.1
theorem p_ok_fits {Rel : z_M → z_M → Prop} (h : p_ok Rel) : p_fits Rel := h.2.2.2.2.2.2.2.2.2.2.2.2.2.2.2.2.2.2.2.2.2.2.2.2.1
theorem p_ok_ask {Rel : z_M → z_M → Prop} (h : p_ok Rel) : p_ask Rel := h.2.2.2.2.2.2.2.2.2.2.2.2.2.2.2.2.2.2.2.2.2.2.2.2.2.1
theorem p_ok_waters {Rel : z_M → z_M → Prop} (h : p_ok Rel) : p_waters Rel := h.2.2.2.2.2.2.2.2.2.2.2.2.2.2.2.2.2.2.2.2.2.2.2.2.2.2.1
theorem p_ok_game {Rel : z_M → z_M → Prop} (h : p_ok Rel) : p_game Rel := h.2.2.2.2.2.2.2.2.2.2.2.2.2.2.2.2.2.2.2.2.2.2.2.2.2.2.2.1
theorem p_ok_greenhouses {Rel : z_M → z_M → Prop} (h : p_ok Rel) : p_greenhouses Rel := h.2.2.2.2.2.2.2.2.2.2.2.2.2.2.2.2.2.2.2.2.2.2.2.2.2.2.2.2.1
theorem p_ok_undo {Rel : z_M → z_M → Prop} (h : p_ok Rel) : p_undo Rel := h.2.2.2.2.2.2.2.2.2.2.2.2.2.2.2.2.2.2.2.2.2.2.2.2.2.2.2.2.2.1
theorem p_ok_image {Rel : z_M → z_M → Prop} (h : p_ok Rel) : p_image Rel := h.2.2.2.2.2.2.2.2.2.2.2.2.2.2.2.2.2.2.2.2.2.2.2.2.2.2.2.2.2.2.1
theorem p_ok_look {Rel : z_M → z_M → Prop} (h : p_ok Rel) : p_look Rel := h.2.2.2.2.2.2.2.2.2.2.2.2.2.2.2.2.2.2.2.2.2.2.2.2.2.2.2.2.2.2.2
