abbrev S_Pile : Type := Int32 × Ar × Int32
def S_Pile.width (z : S_Pile) : Int32 := z.1
def S_Pile.set_width (z : S_Pile) (v : Int32) : S_Pile := (v, z.2)
def S_Pile.cells (z : S_Pile) : Ar := z.2.1
def S_Pile.set_cells (z : S_Pile) (v : Ar) : S_Pile := (z.1, v, z.2.2)
def S_Pile.count (z : S_Pile) : Int32 := z.2.2
def S_Pile.set_count (z : S_Pile) (v : Int32) : S_Pile := (z.1, z.2.1, v)
abbrev S_ledger : Type := S_Pile × Int32 × Int32 × Int32 × Int32 × Int32
def S_ledger.verdicts (z : S_ledger) : S_Pile := z.1
def S_ledger.set_verdicts (z : S_ledger) (v : S_Pile) : S_ledger := (v, z.2)
def S_ledger.fuel (z : S_ledger) : Int32 := z.2.1
def S_ledger.set_fuel (z : S_ledger) (v : Int32) : S_ledger := (z.1, v, z.2.2)
def S_ledger.cost (z : S_ledger) : Int32 := z.2.2.1
def S_ledger.set_cost (z : S_ledger) (v : Int32) : S_ledger := (z.1, z.2.1, v, z.2.2.2)
def S_ledger.outcome (z : S_ledger) : Int32 := z.2.2.2.1
def S_ledger.set_outcome (z : S_ledger) (v : Int32) : S_ledger := (z.1, z.2.1, z.2.2.1, v, z.2.2.2.2)
def S_ledger.reason (z : S_ledger) : Int32 := z.2.2.2.2.1
def S_ledger.set_reason (z : S_ledger) (v : Int32) : S_ledger := (z.1, z.2.1, z.2.2.1, z.2.2.2.1, v, z.2.2.2.2.2)
def S_ledger.place (z : S_ledger) : Int32 := z.2.2.2.2.2
def S_ledger.set_place (z : S_ledger) (v : Int32) : S_ledger := (z.1, z.2.1, z.2.2.1, z.2.2.2.1, z.2.2.2.2.1, v)
abbrev S_names : Type := Ar × Int32 × Ar × Ar × Int32 × Int32
def S_names.letters (z : S_names) : Ar := z.1
def S_names.set_letters (z : S_names) (v : Ar) : S_names := (v, z.2)
def S_names.letterCount (z : S_names) : Int32 := z.2.1
def S_names.set_letterCount (z : S_names) (v : Int32) : S_names := (z.1, v, z.2.2)
def S_names.rows (z : S_names) : Ar := z.2.2.1
def S_names.set_rows (z : S_names) (v : Ar) : S_names := (z.1, z.2.1, v, z.2.2.2)
def S_names.buckets (z : S_names) : Ar := z.2.2.2.1
def S_names.set_buckets (z : S_names) (v : Ar) : S_names := (z.1, z.2.1, z.2.2.1, v, z.2.2.2.2)
def S_names.count (z : S_names) : Int32 := z.2.2.2.2.1
def S_names.set_count (z : S_names) (v : Int32) : S_names := (z.1, z.2.1, z.2.2.1, z.2.2.2.1, v, z.2.2.2.2.2)
def S_names.serial (z : S_names) : Int32 := z.2.2.2.2.2
def S_names.set_serial (z : S_names) (v : Int32) : S_names := (z.1, z.2.1, z.2.2.1, z.2.2.2.1, z.2.2.2.2.1, v)
abbrev S_shelf : Type := Ar × Int32 × Int32 × Int32 × S_Pile × Ar × Ar × S_Pile × S_Pile
def S_shelf.rows (z : S_shelf) : Ar := z.1
def S_shelf.set_rows (z : S_shelf) (v : Ar) : S_shelf := (v, z.2)
def S_shelf.count (z : S_shelf) : Int32 := z.2.1
def S_shelf.set_count (z : S_shelf) (v : Int32) : S_shelf := (z.1, v, z.2.2)
def S_shelf.pending (z : S_shelf) : Int32 := z.2.2.1
def S_shelf.set_pending (z : S_shelf) (v : Int32) : S_shelf := (z.1, z.2.1, v, z.2.2.2)
def S_shelf.keptNames (z : S_shelf) : Int32 := z.2.2.2.1
def S_shelf.set_keptNames (z : S_shelf) (v : Int32) : S_shelf := (z.1, z.2.1, z.2.2.1, v, z.2.2.2.2)
def S_shelf.calls (z : S_shelf) : S_Pile := z.2.2.2.2.1
def S_shelf.set_calls (z : S_shelf) (v : S_Pile) : S_shelf := (z.1, z.2.1, z.2.2.1, z.2.2.2.1, v, z.2.2.2.2.2)
def S_shelf.reached (z : S_shelf) : Ar := z.2.2.2.2.2.1
def S_shelf.set_reached (z : S_shelf) (v : Ar) : S_shelf := (z.1, z.2.1, z.2.2.1, z.2.2.2.1, z.2.2.2.2.1, v, z.2.2.2.2.2.2)
def S_shelf.searched (z : S_shelf) : Ar := z.2.2.2.2.2.2.1
def S_shelf.set_searched (z : S_shelf) (v : Ar) : S_shelf := (z.1, z.2.1, z.2.2.1, z.2.2.2.1, z.2.2.2.2.1, z.2.2.2.2.2.1, v, z.2.2.2.2.2.2.2)
def S_shelf.open_ (z : S_shelf) : S_Pile := z.2.2.2.2.2.2.2.1
def S_shelf.set_open_ (z : S_shelf) (v : S_Pile) : S_shelf := (z.1, z.2.1, z.2.2.1, z.2.2.2.1, z.2.2.2.2.1, z.2.2.2.2.2.1, z.2.2.2.2.2.2.1, v, z.2.2.2.2.2.2.2.2)
def S_shelf.list (z : S_shelf) : S_Pile := z.2.2.2.2.2.2.2.2
def S_shelf.set_list (z : S_shelf) (v : S_Pile) : S_shelf := (z.1, z.2.1, z.2.2.1, z.2.2.2.1, z.2.2.2.2.1, z.2.2.2.2.2.1, z.2.2.2.2.2.2.1, z.2.2.2.2.2.2.2.1, v)
abbrev S_terms : Type := Ar × Int32 × Ar × Int32 × Int32 × Int32 × Int32 × Int32 × S_Pile
def S_terms.cells (z : S_terms) : Ar := z.1
def S_terms.set_cells (z : S_terms) (v : Ar) : S_terms := (v, z.2)
def S_terms.top (z : S_terms) : Int32 := z.2.1
def S_terms.set_top (z : S_terms) (v : Int32) : S_terms := (z.1, v, z.2.2)
def S_terms.rows (z : S_terms) : Ar := z.2.2.1
def S_terms.set_rows (z : S_terms) (v : Ar) : S_terms := (z.1, z.2.1, v, z.2.2.2)
def S_terms.binders (z : S_terms) : Int32 := z.2.2.2.1
def S_terms.set_binders (z : S_terms) (v : Int32) : S_terms := (z.1, z.2.1, z.2.2.1, v, z.2.2.2.2)
def S_terms.kept (z : S_terms) : Int32 := z.2.2.2.2.1
def S_terms.set_kept (z : S_terms) (v : Int32) : S_terms := (z.1, z.2.1, z.2.2.1, z.2.2.2.1, v, z.2.2.2.2.2)
def S_terms.keptBinders (z : S_terms) : Int32 := z.2.2.2.2.2.1
def S_terms.set_keptBinders (z : S_terms) (v : Int32) : S_terms := (z.1, z.2.1, z.2.2.1, z.2.2.2.1, z.2.2.2.2.1, v, z.2.2.2.2.2.2)
def S_terms.block (z : S_terms) : Int32 := z.2.2.2.2.2.2.1
def S_terms.set_block (z : S_terms) (v : Int32) : S_terms := (z.1, z.2.1, z.2.2.1, z.2.2.2.1, z.2.2.2.2.1, z.2.2.2.2.2.1, v, z.2.2.2.2.2.2.2)
def S_terms.blockBinders (z : S_terms) : Int32 := z.2.2.2.2.2.2.2.1
def S_terms.set_blockBinders (z : S_terms) (v : Int32) : S_terms := (z.1, z.2.1, z.2.2.1, z.2.2.2.1, z.2.2.2.2.1, z.2.2.2.2.2.1, z.2.2.2.2.2.2.1, v, z.2.2.2.2.2.2.2.2)
def S_terms.stack (z : S_terms) : S_Pile := z.2.2.2.2.2.2.2.2
def S_terms.set_stack (z : S_terms) (v : S_Pile) : S_terms := (z.1, z.2.1, z.2.2.1, z.2.2.2.1, z.2.2.2.2.1, z.2.2.2.2.2.1, z.2.2.2.2.2.2.1, z.2.2.2.2.2.2.2.1, v)
abbrev S_lexer : Type := Int32 × Int32 × Int32 × Int32 × Int32 × Int32
def S_lexer.length (z : S_lexer) : Int32 := z.1
def S_lexer.set_length (z : S_lexer) (v : Int32) : S_lexer := (v, z.2)
def S_lexer.at_ (z : S_lexer) : Int32 := z.2.1
def S_lexer.set_at_ (z : S_lexer) (v : Int32) : S_lexer := (z.1, v, z.2.2)
def S_lexer.token (z : S_lexer) : Int32 := z.2.2.1
def S_lexer.set_token (z : S_lexer) (v : Int32) : S_lexer := (z.1, z.2.1, v, z.2.2.2)
def S_lexer.start (z : S_lexer) : Int32 := z.2.2.2.1
def S_lexer.set_start (z : S_lexer) (v : Int32) : S_lexer := (z.1, z.2.1, z.2.2.1, v, z.2.2.2.2)
def S_lexer.name (z : S_lexer) : Int32 := z.2.2.2.2.1
def S_lexer.set_name (z : S_lexer) (v : Int32) : S_lexer := (z.1, z.2.1, z.2.2.1, z.2.2.2.1, v, z.2.2.2.2.2)
def S_lexer.level (z : S_lexer) : Int32 := z.2.2.2.2.2
def S_lexer.set_level (z : S_lexer) (v : Int32) : S_lexer := (z.1, z.2.1, z.2.2.1, z.2.2.2.1, z.2.2.2.2.1, v)
abbrev S_parser : Type := S_Pile × S_Pile × Int32 × Int32 × Int32 × Int32 × Int32 × Int32 × Int32 × Int32 × Int32 × S_Pile × Int32 × Int32 × S_Pile
def S_parser.frames (z : S_parser) : S_Pile := z.1
def S_parser.set_frames (z : S_parser) (v : S_Pile) : S_parser := (v, z.2)
def S_parser.waiting (z : S_parser) : S_Pile := z.2.1
def S_parser.set_waiting (z : S_parser) (v : S_Pile) : S_parser := (z.1, v, z.2.2)
def S_parser.mode (z : S_parser) : Int32 := z.2.2.1
def S_parser.set_mode (z : S_parser) (v : Int32) : S_parser := (z.1, z.2.1, v, z.2.2.2)
def S_parser.depth (z : S_parser) : Int32 := z.2.2.2.1
def S_parser.set_depth (z : S_parser) (v : Int32) : S_parser := (z.1, z.2.1, z.2.2.1, v, z.2.2.2.2)
def S_parser.term (z : S_parser) : Int32 := z.2.2.2.2.1
def S_parser.set_term (z : S_parser) (v : Int32) : S_parser := (z.1, z.2.1, z.2.2.1, z.2.2.2.1, v, z.2.2.2.2.2)
def S_parser.application (z : S_parser) : Int32 := z.2.2.2.2.2.1
def S_parser.set_application (z : S_parser) (v : Int32) : S_parser := (z.1, z.2.1, z.2.2.1, z.2.2.2.1, z.2.2.2.2.1, v, z.2.2.2.2.2.2)
def S_parser.place (z : S_parser) : Int32 := z.2.2.2.2.2.2.1
def S_parser.set_place (z : S_parser) (v : Int32) : S_parser := (z.1, z.2.1, z.2.2.1, z.2.2.2.1, z.2.2.2.2.1, z.2.2.2.2.2.1, v, z.2.2.2.2.2.2.2)
def S_parser.subject (z : S_parser) : Int32 := z.2.2.2.2.2.2.2.1
def S_parser.set_subject (z : S_parser) (v : Int32) : S_parser := (z.1, z.2.1, z.2.2.1, z.2.2.2.1, z.2.2.2.2.1, z.2.2.2.2.2.1, z.2.2.2.2.2.2.1, v, z.2.2.2.2.2.2.2.2)
def S_parser.word (z : S_parser) : Int32 := z.2.2.2.2.2.2.2.2.1
def S_parser.set_word (z : S_parser) (v : Int32) : S_parser := (z.1, z.2.1, z.2.2.1, z.2.2.2.1, z.2.2.2.2.1, z.2.2.2.2.2.1, z.2.2.2.2.2.2.1, z.2.2.2.2.2.2.2.1, v, z.2.2.2.2.2.2.2.2.2)
def S_parser.start (z : S_parser) : Int32 := z.2.2.2.2.2.2.2.2.2.1
def S_parser.set_start (z : S_parser) (v : Int32) : S_parser := (z.1, z.2.1, z.2.2.1, z.2.2.2.1, z.2.2.2.2.1, z.2.2.2.2.2.1, z.2.2.2.2.2.2.1, z.2.2.2.2.2.2.2.1, z.2.2.2.2.2.2.2.2.1, v, z.2.2.2.2.2.2.2.2.2.2)
def S_parser.name (z : S_parser) : Int32 := z.2.2.2.2.2.2.2.2.2.2.1
def S_parser.set_name (z : S_parser) (v : Int32) : S_parser := (z.1, z.2.1, z.2.2.1, z.2.2.2.1, z.2.2.2.2.1, z.2.2.2.2.2.1, z.2.2.2.2.2.2.1, z.2.2.2.2.2.2.2.1, z.2.2.2.2.2.2.2.2.1, z.2.2.2.2.2.2.2.2.2.1, v, z.2.2.2.2.2.2.2.2.2.2.2)
def S_parser.bound (z : S_parser) : S_Pile := z.2.2.2.2.2.2.2.2.2.2.2.1
def S_parser.set_bound (z : S_parser) (v : S_Pile) : S_parser := (z.1, z.2.1, z.2.2.1, z.2.2.2.1, z.2.2.2.2.1, z.2.2.2.2.2.1, z.2.2.2.2.2.2.1, z.2.2.2.2.2.2.2.1, z.2.2.2.2.2.2.2.2.1, z.2.2.2.2.2.2.2.2.2.1, z.2.2.2.2.2.2.2.2.2.2.1, v, z.2.2.2.2.2.2.2.2.2.2.2.2)
def S_parser.told (z : S_parser) : Int32 := z.2.2.2.2.2.2.2.2.2.2.2.2.1
def S_parser.set_told (z : S_parser) (v : Int32) : S_parser := (z.1, z.2.1, z.2.2.1, z.2.2.2.1, z.2.2.2.2.1, z.2.2.2.2.2.1, z.2.2.2.2.2.2.1, z.2.2.2.2.2.2.2.1, z.2.2.2.2.2.2.2.2.1, z.2.2.2.2.2.2.2.2.2.1, z.2.2.2.2.2.2.2.2.2.2.1, z.2.2.2.2.2.2.2.2.2.2.2.1, v, z.2.2.2.2.2.2.2.2.2.2.2.2.2)
def S_parser.value (z : S_parser) : Int32 := z.2.2.2.2.2.2.2.2.2.2.2.2.2.1
def S_parser.set_value (z : S_parser) (v : Int32) : S_parser := (z.1, z.2.1, z.2.2.1, z.2.2.2.1, z.2.2.2.2.1, z.2.2.2.2.2.1, z.2.2.2.2.2.2.1, z.2.2.2.2.2.2.2.1, z.2.2.2.2.2.2.2.2.1, z.2.2.2.2.2.2.2.2.2.1, z.2.2.2.2.2.2.2.2.2.2.1, z.2.2.2.2.2.2.2.2.2.2.2.1, z.2.2.2.2.2.2.2.2.2.2.2.2.1, v, z.2.2.2.2.2.2.2.2.2.2.2.2.2.2)
def S_parser.constructors (z : S_parser) : S_Pile := z.2.2.2.2.2.2.2.2.2.2.2.2.2.2
def S_parser.set_constructors (z : S_parser) (v : S_Pile) : S_parser := (z.1, z.2.1, z.2.2.1, z.2.2.2.1, z.2.2.2.2.1, z.2.2.2.2.2.1, z.2.2.2.2.2.2.1, z.2.2.2.2.2.2.2.1, z.2.2.2.2.2.2.2.2.1, z.2.2.2.2.2.2.2.2.2.1, z.2.2.2.2.2.2.2.2.2.2.1, z.2.2.2.2.2.2.2.2.2.2.2.1, z.2.2.2.2.2.2.2.2.2.2.2.2.1, z.2.2.2.2.2.2.2.2.2.2.2.2.2.1, v)
abbrev S_printer : Type := Ar × Int32 × Int32 × S_Pile × S_Pile × Int32 × Ar × Ar × Ar × Int32 × S_Pile
def S_printer.sheet (z : S_printer) : Ar := z.1
def S_printer.set_sheet (z : S_printer) (v : Ar) : S_printer := (v, z.2)
def S_printer.length (z : S_printer) : Int32 := z.2.1
def S_printer.set_length (z : S_printer) (v : Int32) : S_printer := (z.1, v, z.2.2)
def S_printer.full (z : S_printer) : Int32 := z.2.2.1
def S_printer.set_full (z : S_printer) (v : Int32) : S_printer := (z.1, z.2.1, v, z.2.2.2)
def S_printer.tasks (z : S_printer) : S_Pile := z.2.2.2.1
def S_printer.set_tasks (z : S_printer) (v : S_Pile) : S_printer := (z.1, z.2.1, z.2.2.1, v, z.2.2.2.2)
def S_printer.used (z : S_printer) : S_Pile := z.2.2.2.2.1
def S_printer.set_used (z : S_printer) (v : S_Pile) : S_printer := (z.1, z.2.1, z.2.2.1, z.2.2.2.1, v, z.2.2.2.2.2)
def S_printer.binderCount (z : S_printer) : Int32 := z.2.2.2.2.2.1
def S_printer.set_binderCount (z : S_printer) (v : Int32) : S_printer := (z.1, z.2.1, z.2.2.1, z.2.2.2.1, z.2.2.2.2.1, v, z.2.2.2.2.2.2)
def S_printer.scopes (z : S_printer) : Ar := z.2.2.2.2.2.2.1
def S_printer.set_scopes (z : S_printer) (v : Ar) : S_printer := (z.1, z.2.1, z.2.2.1, z.2.2.2.1, z.2.2.2.2.1, z.2.2.2.2.2.1, v, z.2.2.2.2.2.2.2)
def S_printer.spelling (z : S_printer) : Ar := z.2.2.2.2.2.2.2.1
def S_printer.set_spelling (z : S_printer) (v : Ar) : S_printer := (z.1, z.2.1, z.2.2.1, z.2.2.2.1, z.2.2.2.2.1, z.2.2.2.2.2.1, z.2.2.2.2.2.2.1, v, z.2.2.2.2.2.2.2.2)
def S_printer.clashes (z : S_printer) : Ar := z.2.2.2.2.2.2.2.2.1
def S_printer.set_clashes (z : S_printer) (v : Ar) : S_printer := (z.1, z.2.1, z.2.2.1, z.2.2.2.1, z.2.2.2.2.1, z.2.2.2.2.2.1, z.2.2.2.2.2.2.1, z.2.2.2.2.2.2.2.1, v, z.2.2.2.2.2.2.2.2.2)
def S_printer.search (z : S_printer) : Int32 := z.2.2.2.2.2.2.2.2.2.1
def S_printer.set_search (z : S_printer) (v : Int32) : S_printer := (z.1, z.2.1, z.2.2.1, z.2.2.2.1, z.2.2.2.2.1, z.2.2.2.2.2.1, z.2.2.2.2.2.2.1, z.2.2.2.2.2.2.2.1, z.2.2.2.2.2.2.2.2.1, v, z.2.2.2.2.2.2.2.2.2.2)
def S_printer.stack (z : S_printer) : S_Pile := z.2.2.2.2.2.2.2.2.2.2
def S_printer.set_stack (z : S_printer) (v : S_Pile) : S_printer := (z.1, z.2.1, z.2.2.1, z.2.2.2.1, z.2.2.2.2.1, z.2.2.2.2.2.1, z.2.2.2.2.2.2.1, z.2.2.2.2.2.2.2.1, z.2.2.2.2.2.2.2.2.1, z.2.2.2.2.2.2.2.2.2.1, v)
abbrev S_declarer : Type := S_Pile × Int32 × Int32 × Int32
def S_declarer.telescope (z : S_declarer) : S_Pile := z.1
def S_declarer.set_telescope (z : S_declarer) (v : S_Pile) : S_declarer := (v, z.2)
def S_declarer.family (z : S_declarer) : Int32 := z.2.1
def S_declarer.set_family (z : S_declarer) (v : Int32) : S_declarer := (z.1, v, z.2.2)
def S_declarer.familyLevel (z : S_declarer) : Int32 := z.2.2.1
def S_declarer.set_familyLevel (z : S_declarer) (v : Int32) : S_declarer := (z.1, z.2.1, v, z.2.2.2)
def S_declarer.onlyProofs (z : S_declarer) : Int32 := z.2.2.2
def S_declarer.set_onlyProofs (z : S_declarer) (v : Int32) : S_declarer := (z.1, z.2.1, z.2.2.1, v)
abbrev S_typer : Type := S_Pile × Int32 × Int32 × Int32 × S_Pile × S_Pile × Ar × Ar
def S_typer.tasks (z : S_typer) : S_Pile := z.1
def S_typer.set_tasks (z : S_typer) (v : S_Pile) : S_typer := (v, z.2)
def S_typer.task (z : S_typer) : Int32 := z.2.1
def S_typer.set_task (z : S_typer) (v : Int32) : S_typer := (z.1, v, z.2.2)
def S_typer.subject (z : S_typer) : Int32 := z.2.2.1
def S_typer.set_subject (z : S_typer) (v : Int32) : S_typer := (z.1, z.2.1, v, z.2.2.2)
def S_typer.object (z : S_typer) : Int32 := z.2.2.2.1
def S_typer.set_object (z : S_typer) (v : Int32) : S_typer := (z.1, z.2.1, z.2.2.1, v, z.2.2.2.2)
def S_typer.results (z : S_typer) : S_Pile := z.2.2.2.2.1
def S_typer.set_results (z : S_typer) (v : S_Pile) : S_typer := (z.1, z.2.1, z.2.2.1, z.2.2.2.1, v, z.2.2.2.2.2)
def S_typer.pairs (z : S_typer) : S_Pile := z.2.2.2.2.2.1
def S_typer.set_pairs (z : S_typer) (v : S_Pile) : S_typer := (z.1, z.2.1, z.2.2.1, z.2.2.2.1, z.2.2.2.2.1, v, z.2.2.2.2.2.2)
def S_typer.leftLinks (z : S_typer) : Ar := z.2.2.2.2.2.2.1
def S_typer.set_leftLinks (z : S_typer) (v : Ar) : S_typer := (z.1, z.2.1, z.2.2.1, z.2.2.2.1, z.2.2.2.2.1, z.2.2.2.2.2.1, v, z.2.2.2.2.2.2.2)
def S_typer.rightLinks (z : S_typer) : Ar := z.2.2.2.2.2.2.2
def S_typer.set_rightLinks (z : S_typer) (v : Ar) : S_typer := (z.1, z.2.1, z.2.2.1, z.2.2.2.1, z.2.2.2.2.1, z.2.2.2.2.2.1, z.2.2.2.2.2.2.1, v)
abbrev S_reducer : Type := Ar × Int32 × S_Pile × S_Pile × S_Pile × S_Pile × Int32 × Int32 × Int32 × Int32
def S_reducer.heap (z : S_reducer) : Ar := z.1
def S_reducer.set_heap (z : S_reducer) (v : Ar) : S_reducer := (v, z.2)
def S_reducer.heapTop (z : S_reducer) : Int32 := z.2.1
def S_reducer.set_heapTop (z : S_reducer) (v : Int32) : S_reducer := (z.1, v, z.2.2)
def S_reducer.tasks (z : S_reducer) : S_Pile := z.2.2.1
def S_reducer.set_tasks (z : S_reducer) (v : S_Pile) : S_reducer := (z.1, z.2.1, v, z.2.2.2)
def S_reducer.results (z : S_reducer) : S_Pile := z.2.2.2.1
def S_reducer.set_results (z : S_reducer) (v : S_Pile) : S_reducer := (z.1, z.2.1, z.2.2.1, v, z.2.2.2.2)
def S_reducer.frames (z : S_reducer) : S_Pile := z.2.2.2.2.1
def S_reducer.set_frames (z : S_reducer) (v : S_Pile) : S_reducer := (z.1, z.2.1, z.2.2.1, z.2.2.2.1, v, z.2.2.2.2.2)
def S_reducer.parts (z : S_reducer) : S_Pile := z.2.2.2.2.2.1
def S_reducer.set_parts (z : S_reducer) (v : S_Pile) : S_reducer := (z.1, z.2.1, z.2.2.1, z.2.2.2.1, z.2.2.2.2.1, v, z.2.2.2.2.2.2)
def S_reducer.mode (z : S_reducer) : Int32 := z.2.2.2.2.2.2.1
def S_reducer.set_mode (z : S_reducer) (v : Int32) : S_reducer := (z.1, z.2.1, z.2.2.1, z.2.2.2.1, z.2.2.2.2.1, z.2.2.2.2.2.1, v, z.2.2.2.2.2.2.2)
def S_reducer.term (z : S_reducer) : Int32 := z.2.2.2.2.2.2.2.1
def S_reducer.set_term (z : S_reducer) (v : Int32) : S_reducer := (z.1, z.2.1, z.2.2.1, z.2.2.2.1, z.2.2.2.2.1, z.2.2.2.2.2.1, z.2.2.2.2.2.2.1, v, z.2.2.2.2.2.2.2.2)
def S_reducer.scope (z : S_reducer) : Int32 := z.2.2.2.2.2.2.2.2.1
def S_reducer.set_scope (z : S_reducer) (v : Int32) : S_reducer := (z.1, z.2.1, z.2.2.1, z.2.2.2.1, z.2.2.2.2.1, z.2.2.2.2.2.1, z.2.2.2.2.2.2.1, z.2.2.2.2.2.2.2.1, v, z.2.2.2.2.2.2.2.2.2)
def S_reducer.arguments (z : S_reducer) : Int32 := z.2.2.2.2.2.2.2.2.2
def S_reducer.set_arguments (z : S_reducer) (v : Int32) : S_reducer := (z.1, z.2.1, z.2.2.1, z.2.2.2.1, z.2.2.2.2.1, z.2.2.2.2.2.1, z.2.2.2.2.2.2.1, z.2.2.2.2.2.2.2.1, z.2.2.2.2.2.2.2.2.1, v)
abbrev S_desk : Type := Ar × Int32
def S_desk.bytes (z : S_desk) : Ar := z.1
def S_desk.set_bytes (z : S_desk) (v : Ar) : S_desk := (v, z.2)
def S_desk.byteCount (z : S_desk) : Int32 := z.2
def S_desk.set_byteCount (z : S_desk) (v : Int32) : S_desk := (z.1, v)
abbrev SC : Type := S_ledger × S_names × S_shelf × S_terms × S_lexer × S_parser × S_printer × S_declarer × S_typer × S_reducer × S_desk
def SC.ledger (z : SC) : S_ledger := z.1
def SC.set_ledger (z : SC) (v : S_ledger) : SC := (v, z.2)
def SC.names (z : SC) : S_names := z.2.1
def SC.set_names (z : SC) (v : S_names) : SC := (z.1, v, z.2.2)
def SC.shelf (z : SC) : S_shelf := z.2.2.1
def SC.set_shelf (z : SC) (v : S_shelf) : SC := (z.1, z.2.1, v, z.2.2.2)
def SC.terms (z : SC) : S_terms := z.2.2.2.1
def SC.set_terms (z : SC) (v : S_terms) : SC := (z.1, z.2.1, z.2.2.1, v, z.2.2.2.2)
def SC.lexer (z : SC) : S_lexer := z.2.2.2.2.1
def SC.set_lexer (z : SC) (v : S_lexer) : SC := (z.1, z.2.1, z.2.2.1, z.2.2.2.1, v, z.2.2.2.2.2)
def SC.parser (z : SC) : S_parser := z.2.2.2.2.2.1
def SC.set_parser (z : SC) (v : S_parser) : SC := (z.1, z.2.1, z.2.2.1, z.2.2.2.1, z.2.2.2.2.1, v, z.2.2.2.2.2.2)
def SC.printer (z : SC) : S_printer := z.2.2.2.2.2.2.1
def SC.set_printer (z : SC) (v : S_printer) : SC := (z.1, z.2.1, z.2.2.1, z.2.2.2.1, z.2.2.2.2.1, z.2.2.2.2.2.1, v, z.2.2.2.2.2.2.2)
def SC.declarer (z : SC) : S_declarer := z.2.2.2.2.2.2.2.1
def SC.set_declarer (z : SC) (v : S_declarer) : SC := (z.1, z.2.1, z.2.2.1, z.2.2.2.1, z.2.2.2.2.1, z.2.2.2.2.2.1, z.2.2.2.2.2.2.1, v, z.2.2.2.2.2.2.2.2)
def SC.typer (z : SC) : S_typer := z.2.2.2.2.2.2.2.2.1
def SC.set_typer (z : SC) (v : S_typer) : SC := (z.1, z.2.1, z.2.2.1, z.2.2.2.1, z.2.2.2.2.1, z.2.2.2.2.2.1, z.2.2.2.2.2.2.1, z.2.2.2.2.2.2.2.1, v, z.2.2.2.2.2.2.2.2.2)
def SC.reducer (z : SC) : S_reducer := z.2.2.2.2.2.2.2.2.2.1
def SC.set_reducer (z : SC) (v : S_reducer) : SC := (z.1, z.2.1, z.2.2.1, z.2.2.2.1, z.2.2.2.2.1, z.2.2.2.2.2.1, z.2.2.2.2.2.2.1, z.2.2.2.2.2.2.2.1, z.2.2.2.2.2.2.2.2.1, v, z.2.2.2.2.2.2.2.2.2.2)
def SC.desk (z : SC) : S_desk := z.2.2.2.2.2.2.2.2.2.2
def SC.set_desk (z : SC) (v : S_desk) : SC := (z.1, z.2.1, z.2.2.1, z.2.2.2.1, z.2.2.2.2.1, z.2.2.2.2.2.1, z.2.2.2.2.2.2.1, z.2.2.2.2.2.2.2.1, z.2.2.2.2.2.2.2.2.1, z.2.2.2.2.2.2.2.2.2.1, v)
/-- the cells of the program: where they lie, and what they hold -/
def LC (cI cB cZ : ClassId) (st : Value) (O V : Nat → Nat) (g : SC) : va_W :=
  [(O 0, .inr (1, [.ref (O 11), .int g.ledger.fuel, .int g.ledger.cost, .int g.ledger.outcome, .int g.ledger.reason, .int g.ledger.place])),
   (O 1, .inr (2, [.ref (V 20), .int g.names.letterCount, .ref (V 21), .ref (V 22), .int g.names.count, .int g.names.serial])),
   (O 2, .inr (5, [.ref (O 1), .ref (O 3), .ref (V 23), .int g.shelf.count, .int g.shelf.pending, .int g.shelf.keptNames, .ref (O 12), .ref (V 24), .ref (V 25), .ref (O 13), .ref (O 14)])),
   (O 3, .inr (4, [.ref (V 26), .int g.terms.top, .ref (V 27), .int g.terms.binders, .int g.terms.kept, .int g.terms.keptBinders, .int g.terms.block, .int g.terms.blockBinders, .ref (O 15)])),
   (O 4, .inr (3, [.ref (O 1), st, .int g.lexer.length, .int g.lexer.at_, .int g.lexer.token, .int g.lexer.start, .int g.lexer.name, .int g.lexer.level])),
   (O 5, .inr (6, [.ref (O 4), .ref (O 1), .ref (O 3), .ref (O 2), .ref (O 0), .ref (O 16), .ref (O 17), .int g.parser.mode, .int g.parser.depth, .int g.parser.term, .int g.parser.application, .int g.parser.place, .int g.parser.subject, .int g.parser.word, .int g.parser.start, .int g.parser.name, .ref (O 18), .int g.parser.told, .int g.parser.value, .ref (O 19)])),
   (O 6, .inr (10, [.ref (O 1), .ref (O 3), .ref (O 2), .ref (V 28), .int g.printer.length, .int g.printer.full, .ref (O 20), .ref (O 21), .int g.printer.binderCount, .ref (V 29), .ref (V 30), .ref (V 31), .int g.printer.search, .ref (O 22)])),
   (O 7, .inr (9, [.ref (O 5), .ref (O 8), .ref (O 9), .ref (O 6), .ref (O 3), .ref (O 2), .ref (O 0), .ref (O 23), .int g.declarer.family, .int g.declarer.familyLevel, .int g.declarer.onlyProofs])),
   (O 8, .inr (8, [.ref (O 3), .ref (O 2), .ref (O 0), .ref (O 24), .int g.typer.task, .int g.typer.subject, .int g.typer.object, .ref (O 25), .ref (O 26), .ref (V 32), .ref (V 33)])),
   (O 9, .inr (7, [.ref (O 3), .ref (O 2), .ref (O 0), .ref (V 34), .int g.reducer.heapTop, .ref (O 27), .ref (O 28), .ref (O 29), .ref (O 30), .int g.reducer.mode, .int g.reducer.term, .int g.reducer.scope, .int g.reducer.arguments])),
   (O 10, .inr (11, [.ref (O 0), .ref (O 1), .ref (O 2), .ref (O 4), .ref (O 5), .ref (O 6), .ref (O 7), .ref (O 31), .int g.desk.byteCount])),
   (O 11, .inr (0, [.int g.ledger.verdicts.width, .ref (V 0), .int g.ledger.verdicts.count])),
   (O 12, .inr (0, [.int g.shelf.calls.width, .ref (V 1), .int g.shelf.calls.count])),
   (O 13, .inr (0, [.int g.shelf.open_.width, .ref (V 2), .int g.shelf.open_.count])),
   (O 14, .inr (0, [.int g.shelf.list.width, .ref (V 3), .int g.shelf.list.count])),
   (O 15, .inr (0, [.int g.terms.stack.width, .ref (V 4), .int g.terms.stack.count])),
   (O 16, .inr (0, [.int g.parser.frames.width, .ref (V 5), .int g.parser.frames.count])),
   (O 17, .inr (0, [.int g.parser.waiting.width, .ref (V 6), .int g.parser.waiting.count])),
   (O 18, .inr (0, [.int g.parser.bound.width, .ref (V 7), .int g.parser.bound.count])),
   (O 19, .inr (0, [.int g.parser.constructors.width, .ref (V 8), .int g.parser.constructors.count])),
   (O 20, .inr (0, [.int g.printer.tasks.width, .ref (V 9), .int g.printer.tasks.count])),
   (O 21, .inr (0, [.int g.printer.used.width, .ref (V 10), .int g.printer.used.count])),
   (O 22, .inr (0, [.int g.printer.stack.width, .ref (V 11), .int g.printer.stack.count])),
   (O 23, .inr (0, [.int g.declarer.telescope.width, .ref (V 12), .int g.declarer.telescope.count])),
   (O 24, .inr (0, [.int g.typer.tasks.width, .ref (V 13), .int g.typer.tasks.count])),
   (O 25, .inr (0, [.int g.typer.results.width, .ref (V 14), .int g.typer.results.count])),
   (O 26, .inr (0, [.int g.typer.pairs.width, .ref (V 15), .int g.typer.pairs.count])),
   (O 27, .inr (0, [.int g.reducer.tasks.width, .ref (V 16), .int g.reducer.tasks.count])),
   (O 28, .inr (0, [.int g.reducer.results.width, .ref (V 17), .int g.reducer.results.count])),
   (O 29, .inr (0, [.int g.reducer.frames.width, .ref (V 18), .int g.reducer.frames.count])),
   (O 30, .inr (0, [.int g.reducer.parts.width, .ref (V 19), .int g.reducer.parts.count])),
   (V 0, .inl (cI, g.ledger.verdicts.cells.n, .inl g.ledger.verdicts.cells.f)),
   (V 1, .inl (cI, g.shelf.calls.cells.n, .inl g.shelf.calls.cells.f)),
   (V 2, .inl (cI, g.shelf.open_.cells.n, .inl g.shelf.open_.cells.f)),
   (V 3, .inl (cI, g.shelf.list.cells.n, .inl g.shelf.list.cells.f)),
   (V 4, .inl (cI, g.terms.stack.cells.n, .inl g.terms.stack.cells.f)),
   (V 5, .inl (cI, g.parser.frames.cells.n, .inl g.parser.frames.cells.f)),
   (V 6, .inl (cI, g.parser.waiting.cells.n, .inl g.parser.waiting.cells.f)),
   (V 7, .inl (cI, g.parser.bound.cells.n, .inl g.parser.bound.cells.f)),
   (V 8, .inl (cI, g.parser.constructors.cells.n, .inl g.parser.constructors.cells.f)),
   (V 9, .inl (cI, g.printer.tasks.cells.n, .inl g.printer.tasks.cells.f)),
   (V 10, .inl (cI, g.printer.used.cells.n, .inl g.printer.used.cells.f)),
   (V 11, .inl (cI, g.printer.stack.cells.n, .inl g.printer.stack.cells.f)),
   (V 12, .inl (cI, g.declarer.telescope.cells.n, .inl g.declarer.telescope.cells.f)),
   (V 13, .inl (cI, g.typer.tasks.cells.n, .inl g.typer.tasks.cells.f)),
   (V 14, .inl (cI, g.typer.results.cells.n, .inl g.typer.results.cells.f)),
   (V 15, .inl (cI, g.typer.pairs.cells.n, .inl g.typer.pairs.cells.f)),
   (V 16, .inl (cI, g.reducer.tasks.cells.n, .inl g.reducer.tasks.cells.f)),
   (V 17, .inl (cI, g.reducer.results.cells.n, .inl g.reducer.results.cells.f)),
   (V 18, .inl (cI, g.reducer.frames.cells.n, .inl g.reducer.frames.cells.f)),
   (V 19, .inl (cI, g.reducer.parts.cells.n, .inl g.reducer.parts.cells.f)),
   (V 20, .inl (cB, g.names.letters.n, .inl g.names.letters.f)),
   (V 21, .inl (cI, g.names.rows.n, .inl g.names.rows.f)),
   (V 22, .inl (cI, g.names.buckets.n, .inl g.names.buckets.f)),
   (V 23, .inl (cI, g.shelf.rows.n, .inl g.shelf.rows.f)),
   (V 24, .inl (cZ, g.shelf.reached.n, .inl g.shelf.reached.f)),
   (V 25, .inl (cZ, g.shelf.searched.n, .inl g.shelf.searched.f)),
   (V 26, .inl (cI, g.terms.cells.n, .inl g.terms.cells.f)),
   (V 27, .inl (cI, g.terms.rows.n, .inl g.terms.rows.f)),
   (V 28, .inl (cB, g.printer.sheet.n, .inl g.printer.sheet.f)),
   (V 29, .inl (cI, g.printer.scopes.n, .inl g.printer.scopes.f)),
   (V 30, .inl (cB, g.printer.spelling.n, .inl g.printer.spelling.f)),
   (V 31, .inl (cI, g.printer.clashes.n, .inl g.printer.clashes.f)),
   (V 32, .inl (cI, g.typer.leftLinks.n, .inl g.typer.leftLinks.f)),
   (V 33, .inl (cI, g.typer.rightLinks.n, .inl g.typer.rightLinks.f)),
   (V 34, .inl (cI, g.reducer.heap.n, .inl g.reducer.heap.f)),
   (O 31, .inl (cB, g.desk.bytes.n, .inl g.desk.bytes.f))]
