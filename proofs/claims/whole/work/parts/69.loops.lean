/-! each loop, one round on -/
theorem l_Text_append_s0 (S : Nat) (n : Nat) (x1 : Int32) (x2 : Int32) (x3 : Int32) (w : pm_W) : l_Text_append S (n + 1) 0 x1 x2 x3 w = b_Text_append_25  S (l_Text_append S n) x1 x2 x3 w := rfl
theorem l_Text_append_s1 (S : Nat) (n : Nat) (x1 : Int32) (x2 : Int32) (x3 : Int32) (w : pm_W) : l_Text_append S (n + 1) 1 x1 x2 x3 w = b_Text_append_58  S (l_Text_append S n) x1 x3 w := rfl
theorem l_Room_freeUnreached_s (S : Nat) (n : Nat) (k : Nat) (x1 : Int32) (w : pm_W) : l_Room_freeUnreached S (n + 1) k x1 w = b_Room_freeUnreached_7  S (l_Room_freeUnreached S n) x1 w := rfl
theorem l_Room_collect_s0 (S : Nat) (n : Nat) (x1 : Int32) (w : pm_W) : l_Room_collect S (n + 1) 0 x1 w = b_Room_collect_34  S (l_Room_collect S n) x1 w := rfl
theorem l_Room_collect_s1 (S : Nat) (n : Nat) (x1 : Int32) (w : pm_W) : l_Room_collect S (n + 1) 1 x1 w = b_Room_collect_98  S (l_Room_collect S n) x1 w := rfl
theorem l_Room_collect_s2 (S : Nat) (n : Nat) (x1 : Int32) (w : pm_W) : l_Room_collect S (n + 1) 2 x1 w = b_Room_collect_136  S (l_Room_collect S n) x1 w := rfl
theorem l_Text_drop_s (S : Nat) (n : Nat) (k : Nat) (x2 : Int32) (x3 : Int32) (w : pm_W) : l_Text_drop S (n + 1) k x2 x3 w = b_Text_drop_15  S (l_Text_drop S n) x2 x3 w := rfl
theorem l_Text_pieceEnd_s (S : Nat) (n : Nat) (k : Nat) (x2 : Int32) (w : pm_W) : l_Text_pieceEnd S (n + 1) k x2 w = b_Text_pieceEnd_15  S (l_Text_pieceEnd S n) x2 w := rfl
theorem l_Text_isNumber_s (S : Nat) (n : Nat) (k : Nat) (x2 : Int32) (x4 : Int32) (w : pm_W) : l_Text_isNumber S (n + 1) k x2 x4 w = b_Text_isNumber_38  S (l_Text_isNumber S n) x2 x4 w := rfl
theorem l_Text_number_s (S : Nat) (n : Nat) (k : Nat) (x2 : Int32) (x3 : Int32) (x4 : Int32) (x5 : Int32) (w : pm_W) : l_Text_number S (n + 1) k x2 x3 x4 x5 w = b_Text_number_32  S (l_Text_number S n) x2 x3 x4 x5 w := rfl
theorem l_Text_name_s (S : Nat) (n : Nat) (k : Nat) (x1 : Int32) (x2 : Int32) (y3 : Int64) (x5 : Int32) (w : pm_W) : l_Text_name S (n + 1) k x1 x2 y3 x5 w = b_Text_name_5  S (l_Text_name S n) x1 x2 y3 x5 w := rfl
theorem l_Symbols_find_s (S : Nat) (n : Nat) (k : Nat) (y1 : Int64) (x3 : Int32) (w : pm_W) : l_Symbols_find S (n + 1) k y1 x3 w = b_Symbols_find_2  S (l_Symbols_find S n) y1 x3 w := rfl
theorem l_Room_length_s (S : Nat) (n : Nat) (k : Nat) (x2 : Int32) (x3 : Int32) (w : pm_W) : l_Room_length S (n + 1) k x2 x3 w = b_Room_length_4  S (l_Room_length S n) x2 x3 w := rfl
theorem l_Room_tail_s (S : Nat) (n : Nat) (k : Nat) (x2 : Int32) (x3 : Int32) (x4 : Int32) (w : pm_W) : l_Room_tail S (n + 1) k x2 x3 x4 w = b_Room_tail_5  S (l_Room_tail S n) x2 x3 x4 w := rfl
theorem l_Room_binding_s (S : Nat) (n : Nat) (k : Nat) (x1 : Int32) (x3 : Int32) (x4 : Int32) (w : pm_W) : l_Room_binding S (n + 1) k x1 x3 x4 w = b_Room_binding_5  S (l_Room_binding S n) x1 x3 x4 w := rfl
theorem l_Reader_findForm_s (S : Nat) (n : Nat) (k : Nat) (x1 : Int32) (x2 : Int32) (x3 : Int32) (x4 : Int32) (w : pm_W) : l_Reader_findForm S (n + 1) k x1 x2 x3 x4 w = b_Reader_findForm_14  S (l_Reader_findForm S n) x1 x2 x3 x4 w := rfl
theorem l_Reader_learnSymbols_s (S : Nat) (n : Nat) (k : Nat) (x1 : Int32) (x2 : Int32) (w : pm_W) : l_Reader_learnSymbols S (n + 1) k x1 x2 w = b_Reader_learnSymbols_4  S (l_Reader_learnSymbols S n) x1 x2 w := rfl
theorem l_Reader_build_s (S : Nat) (n : Nat) (k : Nat) (x1 : Int32) (x2 : Int32) (x3 : Int32) (x4 : Int32) (w : pm_W) : l_Reader_build S (n + 1) k x1 x2 x3 x4 w = b_Reader_build_14  S (l_Reader_build S n) x1 x2 x3 x4 w := rfl
theorem l_Machine_areParameters_s (S : Nat) (n : Nat) (k : Nat) (x2 : Int32) (x3 : Int32) (w : pm_W) : l_Machine_areParameters S (n + 1) k x2 x3 w = b_Machine_areParameters_4  S (l_Machine_areParameters S n) x2 x3 w := rfl
theorem l_Machine_listOf_s (S : Nat) (n : Nat) (k : Nat) (x2 : Int32) (x3 : Int32) (x4 : Int32) (x5 : Int32) (w : pm_W) : l_Machine_listOf S (n + 1) k x2 x3 x4 x5 w = b_Machine_listOf_8  S (l_Machine_listOf S n) x2 x3 x4 x5 w := rfl
theorem l_Machine_boundEnvironment_s (S : Nat) (n : Nat) (k : Nat) (x2 : Int32) (x3 : Int32) (x4 : Int32) (x5 : Int32) (x6 : Int32) (w : pm_W) : l_Machine_boundEnvironment S (n + 1) k x2 x3 x4 x5 x6 w = b_Machine_boundEnvironment_23  S (l_Machine_boundEnvironment S n) x2 x3 x4 x5 x6 w := rfl
theorem l_Printer_printNumber_s (S : Nat) (n : Nat) (k : Nat) (x2 : Int32) (x3 : Int32) (w : pm_W) : l_Printer_printNumber S (n + 1) k x2 x3 w = b_Printer_printNumber_21  S (l_Printer_printNumber S n) x2 x3 w := rfl
theorem l_Printer_printName_s (S : Nat) (n : Nat) (k : Nat) (y1 : Int64) (x3 : Int32) (w : pm_W) : l_Printer_printName S (n + 1) k y1 x3 w = b_Printer_printName_3  S (l_Printer_printName S n) y1 x3 w := rfl
theorem l_Md_live_s0  (n : Nat) (x1 : Int32) (x2 : Int32) (x3 : Int32) (w : pm_W) : l_Md_live (n + 1) 0 x1 x2 x3 w = b_Md_live_2  (l_Md_live n) x1 w := rfl
theorem l_Md_live_s1  (n : Nat) (x1 : Int32) (x2 : Int32) (x3 : Int32) (w : pm_W) : l_Md_live (n + 1) 1 x1 x2 x3 w = b_Md_live_40  (l_Md_live n) x1 w := rfl
theorem l_Md_live_s2  (n : Nat) (x1 : Int32) (x2 : Int32) (x3 : Int32) (w : pm_W) : l_Md_live (n + 1) 2 x1 x2 x3 w = b_Md_live_86  (l_Md_live n) x1 w := rfl
theorem l_Md_live_s3  (n : Nat) (x1 : Int32) (x2 : Int32) (x3 : Int32) (w : pm_W) : l_Md_live (n + 1) 3 x1 x2 x3 w = b_Md_live_114  (l_Md_live n) x1 x2 w := rfl
theorem l_Md_live_s4  (n : Nat) (x1 : Int32) (x2 : Int32) (x3 : Int32) (w : pm_W) : l_Md_live (n + 1) 4 x1 x2 x3 w = b_Md_live_125  (l_Md_live n) x1 x2 x3 w := rfl
theorem l_Md_room_s  (n : Nat) (k : Nat) (x2 : Int32) (x3 : Int32) (w : pm_W) : l_Md_room (n + 1) k x2 x3 w = b_Md_room_21  (l_Md_room n) x2 x3 w := rfl
theorem l_Md_make_s  (n : Nat) (k : Nat) (x1 : Int32) (x2 : Int32) (x3 : Int32) (x4 : Int32) (x5 : Int32) (w : pm_W) : l_Md_make (n + 1) k x1 x2 x3 x4 x5 w = b_Md_make_3  (l_Md_make n) x1 x2 x3 x4 x5 w := rfl
theorem l_Md_feed_s0  (n : Nat) (x1 : Int32) (x2 : Int32) (x3 : Int32) (w : pm_W) : l_Md_feed (n + 1) 0 x1 x2 x3 w = b_Md_feed_30  (l_Md_feed n) x1 x2 x3 w := rfl
theorem l_Md_feed_s1  (n : Nat) (x1 : Int32) (x2 : Int32) (x3 : Int32) (w : pm_W) : l_Md_feed (n + 1) 1 x1 x2 x3 w = b_Md_feed_80  (l_Md_feed n) x1 x3 w := rfl
theorem l_Md_skip_s  (n : Nat) (k : Nat) (x2 : Int32) (w : pm_W) : l_Md_skip (n + 1) k x2 w = b_Md_skip_2  (l_Md_skip n) x2 w := rfl
theorem l_Md_tokenEnd_s  (n : Nat) (k : Nat) (x2 : Int32) (w : pm_W) : l_Md_tokenEnd (n + 1) k x2 w = b_Md_tokenEnd_18  (l_Md_tokenEnd n) x2 w := rfl
theorem l_Md_drop_s  (n : Nat) (k : Nat) (x1 : Int32) (x2 : Int32) (w : pm_W) : l_Md_drop (n + 1) k x1 x2 w = b_Md_drop_2  (l_Md_drop n) x1 x2 w := rfl
theorem l_Md_isFigure_s  (n : Nat) (k : Nat) (x2 : Int32) (x4 : Int32) (x5 : Int32) (w : pm_W) : l_Md_isFigure (n + 1) k x2 x4 x5 w = b_Md_isFigure_42  (l_Md_isFigure n) x2 x4 x5 w := rfl
theorem l_Md_figure_s  (n : Nat) (k : Nat) (x1 : Int32) (x2 : Int32) (x3 : Int32) (x4 : Int32) (w : pm_W) : l_Md_figure (n + 1) k x1 x2 x3 x4 w = b_Md_figure_22  (l_Md_figure n) x1 x2 x3 x4 w := rfl
theorem l_Md_symbolOf_s0  (n : Nat) (x1 : Int32) (x2 : Int32) (x3 : Int32) (x4 : Int32) (x5 : Int32) (w : pm_W) : l_Md_symbolOf (n + 1) 0 x1 x2 x3 x4 x5 w = b_Md_symbolOf_2  (l_Md_symbolOf n) x1 x2 x3 w := rfl
theorem l_Md_symbolOf_s1  (n : Nat) (x1 : Int32) (x2 : Int32) (x3 : Int32) (x4 : Int32) (x5 : Int32) (w : pm_W) : l_Md_symbolOf (n + 1) 1 x1 x2 x3 x4 x5 w = b_Md_symbolOf_16  (l_Md_symbolOf n) x1 x2 x3 x4 x5 w := rfl
theorem l_Md_meet_s  (n : Nat) (k : Nat) (x1 : Int32) (x2 : Int32) (x3 : Int32) (w : pm_W) : l_Md_meet (n + 1) k x1 x2 x3 w = b_Md_meet_46  (l_Md_meet n) x1 x2 x3 w := rfl
theorem l_Md_lookOver_s  (n : Nat) (k : Nat) (x1 : Int32) (x2 : Int32) (x3 : Int32) (w : pm_W) : l_Md_lookOver (n + 1) k x1 x2 x3 w = b_Md_lookOver_15  (l_Md_lookOver n) x1 x2 x3 w := rfl
theorem l_Md_read_s  (n : Nat) (k : Nat) (x1 : Int32) (x2 : Int32) (w : pm_W) : l_Md_read (n + 1) k x1 x2 w = b_Md_read_15  (l_Md_read n) x1 x2 w := rfl
theorem l_Md_reading_s  (n : Nat) (k : Nat) (x1 : Int32) (x2 : Int32) (x3 : Int32) (w : pm_W) : l_Md_reading (n + 1) k x1 x2 x3 w = b_Md_reading_32  (l_Md_reading n) x1 x2 x3 w := rfl
theorem l_Md_lengthOf_s  (n : Nat) (k : Nat) (x2 : Int32) (x3 : Int32) (w : pm_W) : l_Md_lengthOf (n + 1) k x2 x3 w = b_Md_lengthOf_4  (l_Md_lengthOf n) x2 x3 w := rfl
theorem l_Md_at_s  (n : Nat) (k : Nat) (x2 : Int32) (x3 : Int32) (x4 : Int32) (w : pm_W) : l_Md_at (n + 1) k x2 x3 x4 w = b_Md_at_5  (l_Md_at n) x2 x3 x4 w := rfl
theorem l_Md_binding_s  (n : Nat) (k : Nat) (x1 : Int32) (x3 : Int32) (w : pm_W) : l_Md_binding (n + 1) k x1 x3 w = b_Md_binding_2  (l_Md_binding n) x1 x3 w := rfl
theorem l_Md_areParameters_s  (n : Nat) (k : Nat) (x2 : Int32) (x3 : Int32) (w : pm_W) : l_Md_areParameters (n + 1) k x2 x3 w = b_Md_areParameters_31  (l_Md_areParameters n) x2 x3 w := rfl
theorem l_Md_listed_s  (n : Nat) (k : Nat) (x1 : Int32) (x2 : Int32) (x3 : Int32) (x4 : Int32) (w : pm_W) : l_Md_listed (n + 1) k x1 x2 x3 x4 w = b_Md_listed_19  (l_Md_listed n) x1 x2 x3 x4 w := rfl
theorem l_Md_enter_s  (n : Nat) (k : Nat) (x1 : Int32) (x2 : Int32) (x3 : Int32) (x4 : Int32) (x5 : Int32) (w : pm_W) : l_Md_enter (n + 1) k x1 x2 x3 x4 x5 w = b_Md_enter_43  (l_Md_enter n) x1 x2 x3 x4 x5 w := rfl
theorem l_Md_putName_s  (n : Nat) (k : Nat) (x1 : Int32) (x2 : Int32) (w : pm_W) : l_Md_putName (n + 1) k x1 x2 w = b_Md_putName_2  (l_Md_putName n) x1 x2 w := rfl
theorem l_Md_putNumber_s0  (n : Nat) (x2 : Int32) (x3 : Int32) (w : pm_W) : l_Md_putNumber (n + 1) 0 x2 x3 w = b_Md_putNumber_23  (l_Md_putNumber n) x2 x3 w := rfl
theorem l_Md_putNumber_s1  (n : Nat) (x2 : Int32) (x3 : Int32) (w : pm_W) : l_Md_putNumber (n + 1) 1 x2 x3 w = b_Md_putNumber_39  (l_Md_putNumber n) x2 x3 w := rfl
theorem l_Md_print_s  (n : Nat) (k : Nat) (x1 : Int32) (w : pm_W) : l_Md_print (n + 1) k x1 w = b_Md_print_10  (l_Md_print n) x1 w := rfl
theorem l_Md_run_s  (n : Nat) (k : Nat) (x2 : Int32) (x3 : Int32) (w : pm_W) : l_Md_run (n + 1) k x2 x3 w = b_Md_run_46  (l_Md_run n) x2 x3 w := rfl
theorem l_Printer_printText_s (S : Nat) (n : Nat) (k : Nat) (k1 : Nat) (x2 : Int32) (w : pm_W) : l_Printer_printText S (n + 1) k k1 x2 w = b_Printer_printText_2  S (l_Printer_printText S n) k1 x2 w := rfl
theorem l_Printer_printList_s (S : Nat) (pr : Int32 → Int32 → pm_W → Option pm_W) (n : Nat) (k : Nat) (x2 : Int32) (x3 : Int32) (x4 : Int32) (w : pm_W) : l_Printer_printList S pr (n + 1) k x2 x3 x4 w = b_Printer_printList_5  S pr (l_Printer_printList S pr n) x2 x3 x4 w := rfl
theorem l_CL_run_s (S : Nat) (n : Nat) (k : Nat) (x2 : Int32) (x3 : Int32) (x4 : Int32) (w : pm_W) : l_CL_run S (n + 1) k x2 x3 x4 w = b_CL_run_17  S (l_CL_run S n) x2 x3 x4 w := rfl
theorem l_Symbols_findY_s  (n : Nat) (k : Nat) (y1 : Int64) (x3 : Int32) (w : pm_W) : l_Symbols_findY (n + 1) k y1 x3 w = b_Symbols_findY_2  (l_Symbols_findY n) y1 x3 w := rfl
theorem l_Symbols_initY_s0  (n : Nat) (y1 : Int64) (x3 : Int32) (w : pm_W) : l_Symbols_initY (n + 1) 0 y1 x3 w = b_Symbols_initY_24  (l_Symbols_initY n) y1 x3 w := rfl
theorem l_Symbols_initY_s1  (n : Nat) (y1 : Int64) (x3 : Int32) (w : pm_W) : l_Symbols_initY (n + 1) 1 y1 x3 w = b_Symbols_initY_76  (l_Symbols_initY n) x3 w := rfl
theorem l_Room_init_s (S : Nat) (n : Nat) (k : Nat) (x4 : Int32) (w : pm_W) : l_Room_init S (n + 1) k x4 w = b_Room_init_93  S (l_Room_init S n) x4 w := rfl
theorem l_Md_init_s  (n : Nat) (k : Nat) (x2 : Int32) (w : pm_W) : l_Md_init (n + 1) k x2 w = b_Md_init_198  (l_Md_init n) x2 w := rfl
